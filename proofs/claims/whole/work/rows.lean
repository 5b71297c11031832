section
-- ===== PART A: goes FIRST, ahead of the names: the tables' words, and 'selects' of the private methods out of them =====
/-- a private method of a class that the tables say can be made, by its rows of tables_1 -/
def lw_okq (q : MethodName × Nat) : Prop := (q.1.cls ≠ "java/lang/invoke/MethodHandle" ∧ q.1.cls ≠ "java/lang/invoke/VarHandle") ∧ Cond.instantiable q.1.cls q.2 ∈ tables_1 ∧ Cond.privateMethod q.1 ∈ tables_1 ∧ Cond.instanceMethod q.1 ∈ tables_1
theorem lw_p0 : lw_okq (⟨"FareLimits$Worths", "make", "(I)V"⟩, 4) := ⟨⟨by decide +kernel, by decide +kernel⟩, List.mem_of_getElem? (i := 140) (by decide +kernel), List.mem_of_getElem? (i := 447) (by decide +kernel), List.mem_of_getElem? (i := 448) (by decide +kernel)⟩
theorem lw_p1 : lw_okq (⟨"FareLimits$Worths", "worthOf", "([DII)D"⟩, 4) := ⟨⟨by decide +kernel, by decide +kernel⟩, List.mem_of_getElem? (i := 140) (by decide +kernel), List.mem_of_getElem? (i := 456) (by decide +kernel), List.mem_of_getElem? (i := 457) (by decide +kernel)⟩
theorem lw_p2 : lw_okq (⟨"FareLimits$Whole", "nextGross", "(IIJ)J"⟩, 2) := ⟨⟨by decide +kernel, by decide +kernel⟩, List.mem_of_getElem? (i := 162) (by decide +kernel), List.mem_of_getElem? (i := 487) (by decide +kernel), List.mem_of_getElem? (i := 488) (by decide +kernel)⟩
theorem lw_p3 : lw_okq (⟨"FareLimits$Chances", "begin", "()V"⟩, 2) := ⟨⟨by decide +kernel, by decide +kernel⟩, List.mem_of_getElem? (i := 176) (by decide +kernel), List.mem_of_getElem? (i := 534) (by decide +kernel), List.mem_of_getElem? (i := 535) (by decide +kernel)⟩
theorem lw_p4 : lw_okq (⟨"FareLimits$Chances", "oneMore", "(IDD)V"⟩, 2) := ⟨⟨by decide +kernel, by decide +kernel⟩, List.mem_of_getElem? (i := 176) (by decide +kernel), List.mem_of_getElem? (i := 541) (by decide +kernel), List.mem_of_getElem? (i := 542) (by decide +kernel)⟩
theorem lw_p5 : lw_okq (⟨"FareLimits$Whole", "setsOf", "(II)J"⟩, 2) := ⟨⟨by decide +kernel, by decide +kernel⟩, List.mem_of_getElem? (i := 162) (by decide +kernel), List.mem_of_getElem? (i := 582) (by decide +kernel), List.mem_of_getElem? (i := 583) (by decide +kernel)⟩
theorem lw_p6 : lw_okq (⟨"FareLimits$Tape", "faultOfPart", "(LFareLimits$Network;)I"⟩, 9) := ⟨⟨by decide +kernel, by decide +kernel⟩, List.mem_of_getElem? (i := 189) (by decide +kernel), List.mem_of_getElem? (i := 631) (by decide +kernel), List.mem_of_getElem? (i := 632) (by decide +kernel)⟩
theorem lw_p7 : lw_okq (⟨"FareLimits$Tape", "faultOfName", "(LFareLimits$Network;)I"⟩, 9) := ⟨⟨by decide +kernel, by decide +kernel⟩, List.mem_of_getElem? (i := 189) (by decide +kernel), List.mem_of_getElem? (i := 635) (by decide +kernel), List.mem_of_getElem? (i := 636) (by decide +kernel)⟩
theorem lw_p8 : lw_okq (⟨"FareLimits$Tape", "byteAt", "(I)I"⟩, 9) := ⟨⟨by decide +kernel, by decide +kernel⟩, List.mem_of_getElem? (i := 189) (by decide +kernel), List.mem_of_getElem? (i := 639) (by decide +kernel), List.mem_of_getElem? (i := 640) (by decide +kernel)⟩
theorem lw_p9 : lw_okq (⟨"FareLimits$Tape", "isRead", "(I)Z"⟩, 9) := ⟨⟨by decide +kernel, by decide +kernel⟩, List.mem_of_getElem? (i := 189) (by decide +kernel), List.mem_of_getElem? (i := 650) (by decide +kernel), List.mem_of_getElem? (i := 651) (by decide +kernel)⟩
theorem lw_p10 : lw_okq (⟨"FareLimits$Tape", "faultOfSign", "(I)I"⟩, 9) := ⟨⟨by decide +kernel, by decide +kernel⟩, List.mem_of_getElem? (i := 189) (by decide +kernel), List.mem_of_getElem? (i := 654) (by decide +kernel), List.mem_of_getElem? (i := 655) (by decide +kernel)⟩
theorem lw_p11 : lw_okq (⟨"FareLimits$Tape", "faultOfLegs", "()I"⟩, 9) := ⟨⟨by decide +kernel, by decide +kernel⟩, List.mem_of_getElem? (i := 189) (by decide +kernel), List.mem_of_getElem? (i := 658) (by decide +kernel), List.mem_of_getElem? (i := 659) (by decide +kernel)⟩
theorem lw_p12 : lw_okq (⟨"FareLimits$Tape", "faultOfPrice", "()I"⟩, 9) := ⟨⟨by decide +kernel, by decide +kernel⟩, List.mem_of_getElem? (i := 189) (by decide +kernel), List.mem_of_getElem? (i := 662) (by decide +kernel), List.mem_of_getElem? (i := 663) (by decide +kernel)⟩
theorem lw_p13 : lw_okq (⟨"FareLimits$Tape", "numberOf", "(I)I"⟩, 9) := ⟨⟨by decide +kernel, by decide +kernel⟩, List.mem_of_getElem? (i := 189) (by decide +kernel), List.mem_of_getElem? (i := 666) (by decide +kernel), List.mem_of_getElem? (i := 667) (by decide +kernel)⟩
theorem lw_p14 : lw_okq (⟨"FareLimits$Tape", "faultOfWanted", "()I"⟩, 9) := ⟨⟨by decide +kernel, by decide +kernel⟩, List.mem_of_getElem? (i := 189) (by decide +kernel), List.mem_of_getElem? (i := 670) (by decide +kernel), List.mem_of_getElem? (i := 671) (by decide +kernel)⟩
theorem lw_p15 : lw_okq (⟨"FareLimits$Network", "dearestBut", "(II)I"⟩, 4) := ⟨⟨by decide +kernel, by decide +kernel⟩, List.mem_of_getElem? (i := 46) (by decide +kernel), List.mem_of_getElem? (i := 732) (by decide +kernel), List.mem_of_getElem? (i := 733) (by decide +kernel)⟩
def lw_privs_1 : List (MethodName × Nat) := [(⟨"FareLimits$Worths", "make", "(I)V"⟩, 4), (⟨"FareLimits$Worths", "worthOf", "([DII)D"⟩, 4), (⟨"FareLimits$Whole", "nextGross", "(IIJ)J"⟩, 2), (⟨"FareLimits$Chances", "begin", "()V"⟩, 2), (⟨"FareLimits$Chances", "oneMore", "(IDD)V"⟩, 2), (⟨"FareLimits$Whole", "setsOf", "(II)J"⟩, 2), (⟨"FareLimits$Tape", "faultOfPart", "(LFareLimits$Network;)I"⟩, 9), (⟨"FareLimits$Tape", "faultOfName", "(LFareLimits$Network;)I"⟩, 9), (⟨"FareLimits$Tape", "byteAt", "(I)I"⟩, 9), (⟨"FareLimits$Tape", "isRead", "(I)Z"⟩, 9), (⟨"FareLimits$Tape", "faultOfSign", "(I)I"⟩, 9), (⟨"FareLimits$Tape", "faultOfLegs", "()I"⟩, 9), (⟨"FareLimits$Tape", "faultOfPrice", "()I"⟩, 9), (⟨"FareLimits$Tape", "numberOf", "(I)I"⟩, 9), (⟨"FareLimits$Tape", "faultOfWanted", "()I"⟩, 9), (⟨"FareLimits$Network", "dearestBut", "(II)I"⟩, 4)]
theorem lw_r1 : ∀ q ∈ lw_privs_1, lw_okq q := List.forall_mem_cons.mpr ⟨lw_p0, List.forall_mem_cons.mpr ⟨lw_p1, List.forall_mem_cons.mpr ⟨lw_p2, List.forall_mem_cons.mpr ⟨lw_p3, List.forall_mem_cons.mpr ⟨lw_p4, List.forall_mem_cons.mpr ⟨lw_p5, List.forall_mem_cons.mpr ⟨lw_p6, List.forall_mem_cons.mpr ⟨lw_p7, List.forall_mem_cons.mpr ⟨lw_p8, List.forall_mem_cons.mpr ⟨lw_p9, List.forall_mem_cons.mpr ⟨lw_p10, List.forall_mem_cons.mpr ⟨lw_p11, List.forall_mem_cons.mpr ⟨lw_p12, List.forall_mem_cons.mpr ⟨lw_p13, List.forall_mem_cons.mpr ⟨lw_p14, List.forall_mem_cons.mpr ⟨lw_p15, fun _ h => absurd h List.not_mem_nil⟩⟩⟩⟩⟩⟩⟩⟩⟩⟩⟩⟩⟩⟩⟩⟩
theorem lw_p16 : lw_okq (⟨"FareLimits$Network", "spellRoute", "(Ljava/lang/StringBuilder;LFareLimits$Route;)V"⟩, 4) := ⟨⟨by decide +kernel, by decide +kernel⟩, List.mem_of_getElem? (i := 46) (by decide +kernel), List.mem_of_getElem? (i := 878) (by decide +kernel), List.mem_of_getElem? (i := 879) (by decide +kernel)⟩
theorem lw_p17 : lw_okq (⟨"FareLimits", "answerRequests", "(II)I"⟩, 12) := ⟨⟨by decide +kernel, by decide +kernel⟩, List.mem_of_getElem? (i := 30) (by decide +kernel), List.mem_of_getElem? (i := 945) (by decide +kernel), List.mem_of_getElem? (i := 946) (by decide +kernel)⟩
theorem lw_p18 : lw_okq (⟨"FareLimits$Day", "handGives", "(I)Z"⟩, 9) := ⟨⟨by decide +kernel, by decide +kernel⟩, List.mem_of_getElem? (i := 227) (by decide +kernel), List.mem_of_getElem? (i := 968) (by decide +kernel), List.mem_of_getElem? (i := 969) (by decide +kernel)⟩
theorem lw_p19 : lw_okq (⟨"FareLimits$Day", "fareDrawn", "(II)I"⟩, 9) := ⟨⟨by decide +kernel, by decide +kernel⟩, List.mem_of_getElem? (i := 227) (by decide +kernel), List.mem_of_getElem? (i := 992) (by decide +kernel), List.mem_of_getElem? (i := 993) (by decide +kernel)⟩
theorem lw_p20 : lw_okq (⟨"FareLimitsModel", "isFare", "(I)Z"⟩, 29) := ⟨⟨by decide +kernel, by decide +kernel⟩, List.mem_of_getElem? (i := 1085) (by decide +kernel), List.mem_of_getElem? (i := 1193) (by decide +kernel), List.mem_of_getElem? (i := 1194) (by decide +kernel)⟩
theorem lw_p21 : lw_okq (⟨"FareLimitsModel", "price", "(I)I"⟩, 29) := ⟨⟨by decide +kernel, by decide +kernel⟩, List.mem_of_getElem? (i := 1085) (by decide +kernel), List.mem_of_getElem? (i := 1198) (by decide +kernel), List.mem_of_getElem? (i := 1199) (by decide +kernel)⟩
theorem lw_p22 : lw_okq (⟨"FareLimitsModel", "showing", "(I)D"⟩, 29) := ⟨⟨by decide +kernel, by decide +kernel⟩, List.mem_of_getElem? (i := 1085) (by decide +kernel), List.mem_of_getElem? (i := 1225) (by decide +kernel), List.mem_of_getElem? (i := 1226) (by decide +kernel)⟩
theorem lw_p23 : lw_okq (⟨"FareLimitsModel", "netOf", "(II)D"⟩, 29) := ⟨⟨by decide +kernel, by decide +kernel⟩, List.mem_of_getElem? (i := 1085) (by decide +kernel), List.mem_of_getElem? (i := 1245) (by decide +kernel), List.mem_of_getElem? (i := 1246) (by decide +kernel)⟩
theorem lw_p24 : lw_okq (⟨"FareLimitsModel", "isSeat", "(I)Z"⟩, 29) := ⟨⟨by decide +kernel, by decide +kernel⟩, List.mem_of_getElem? (i := 1085) (by decide +kernel), List.mem_of_getElem? (i := 1262) (by decide +kernel), List.mem_of_getElem? (i := 1263) (by decide +kernel)⟩
theorem lw_p25 : lw_okq (⟨"FareLimitsModel", "reckons", "(I)V"⟩, 29) := ⟨⟨by decide +kernel, by decide +kernel⟩, List.mem_of_getElem? (i := 1085) (by decide +kernel), List.mem_of_getElem? (i := 1266) (by decide +kernel), List.mem_of_getElem? (i := 1267) (by decide +kernel)⟩
theorem lw_p26 : lw_okq (⟨"FareLimitsModel", "worthOf", "(II)D"⟩, 29) := ⟨⟨by decide +kernel, by decide +kernel⟩, List.mem_of_getElem? (i := 1085) (by decide +kernel), List.mem_of_getElem? (i := 1270) (by decide +kernel), List.mem_of_getElem? (i := 1271) (by decide +kernel)⟩
theorem lw_p27 : lw_okq (⟨"FareLimitsModel", "gain", "(III)D"⟩, 29) := ⟨⟨by decide +kernel, by decide +kernel⟩, List.mem_of_getElem? (i := 1085) (by decide +kernel), List.mem_of_getElem? (i := 1274) (by decide +kernel), List.mem_of_getElem? (i := 1275) (by decide +kernel)⟩
theorem lw_p28 : lw_okq (⟨"FareLimitsModel", "odds", "(II)I"⟩, 29) := ⟨⟨by decide +kernel, by decide +kernel⟩, List.mem_of_getElem? (i := 1085) (by decide +kernel), List.mem_of_getElem? (i := 1278) (by decide +kernel), List.mem_of_getElem? (i := 1279) (by decide +kernel)⟩
theorem lw_p29 : lw_okq (⟨"FareLimitsModel", "next", "(II)J"⟩, 29) := ⟨⟨by decide +kernel, by decide +kernel⟩, List.mem_of_getElem? (i := 1085) (by decide +kernel), List.mem_of_getElem? (i := 1300) (by decide +kernel), List.mem_of_getElem? (i := 1301) (by decide +kernel)⟩
theorem lw_p30 : lw_okq (⟨"FareLimitsModel", "times", "(JJ)J"⟩, 29) := ⟨⟨by decide +kernel, by decide +kernel⟩, List.mem_of_getElem? (i := 1085) (by decide +kernel), List.mem_of_getElem? (i := 1304) (by decide +kernel), List.mem_of_getElem? (i := 1305) (by decide +kernel)⟩
theorem lw_p31 : lw_okq (⟨"FareLimitsModel", "power", "(II)J"⟩, 29) := ⟨⟨by decide +kernel, by decide +kernel⟩, List.mem_of_getElem? (i := 1085) (by decide +kernel), List.mem_of_getElem? (i := 1309) (by decide +kernel), List.mem_of_getElem? (i := 1310) (by decide +kernel)⟩
def lw_privs_2 : List (MethodName × Nat) := [(⟨"FareLimits$Network", "spellRoute", "(Ljava/lang/StringBuilder;LFareLimits$Route;)V"⟩, 4), (⟨"FareLimits", "answerRequests", "(II)I"⟩, 12), (⟨"FareLimits$Day", "handGives", "(I)Z"⟩, 9), (⟨"FareLimits$Day", "fareDrawn", "(II)I"⟩, 9), (⟨"FareLimitsModel", "isFare", "(I)Z"⟩, 29), (⟨"FareLimitsModel", "price", "(I)I"⟩, 29), (⟨"FareLimitsModel", "showing", "(I)D"⟩, 29), (⟨"FareLimitsModel", "netOf", "(II)D"⟩, 29), (⟨"FareLimitsModel", "isSeat", "(I)Z"⟩, 29), (⟨"FareLimitsModel", "reckons", "(I)V"⟩, 29), (⟨"FareLimitsModel", "worthOf", "(II)D"⟩, 29), (⟨"FareLimitsModel", "gain", "(III)D"⟩, 29), (⟨"FareLimitsModel", "odds", "(II)I"⟩, 29), (⟨"FareLimitsModel", "next", "(II)J"⟩, 29), (⟨"FareLimitsModel", "times", "(JJ)J"⟩, 29), (⟨"FareLimitsModel", "power", "(II)J"⟩, 29)]
theorem lw_r2 : ∀ q ∈ lw_privs_2, lw_okq q := List.forall_mem_cons.mpr ⟨lw_p16, List.forall_mem_cons.mpr ⟨lw_p17, List.forall_mem_cons.mpr ⟨lw_p18, List.forall_mem_cons.mpr ⟨lw_p19, List.forall_mem_cons.mpr ⟨lw_p20, List.forall_mem_cons.mpr ⟨lw_p21, List.forall_mem_cons.mpr ⟨lw_p22, List.forall_mem_cons.mpr ⟨lw_p23, List.forall_mem_cons.mpr ⟨lw_p24, List.forall_mem_cons.mpr ⟨lw_p25, List.forall_mem_cons.mpr ⟨lw_p26, List.forall_mem_cons.mpr ⟨lw_p27, List.forall_mem_cons.mpr ⟨lw_p28, List.forall_mem_cons.mpr ⟨lw_p29, List.forall_mem_cons.mpr ⟨lw_p30, List.forall_mem_cons.mpr ⟨lw_p31, fun _ h => absurd h List.not_mem_nil⟩⟩⟩⟩⟩⟩⟩⟩⟩⟩⟩⟩⟩⟩⟩⟩
theorem lw_p32 : lw_okq (⟨"FareLimitsModel", "plus", "(JJ)J"⟩, 29) := ⟨⟨by decide +kernel, by decide +kernel⟩, List.mem_of_getElem? (i := 1085) (by decide +kernel), List.mem_of_getElem? (i := 1313) (by decide +kernel), List.mem_of_getElem? (i := 1314) (by decide +kernel)⟩
theorem lw_p33 : lw_okq (⟨"FareLimitsModel", "isTaken", "(III)Z"⟩, 29) := ⟨⟨by decide +kernel, by decide +kernel⟩, List.mem_of_getElem? (i := 1085) (by decide +kernel), List.mem_of_getElem? (i := 1325) (by decide +kernel), List.mem_of_getElem? (i := 1326) (by decide +kernel)⟩
theorem lw_p34 : lw_okq (⟨"FareLimitsModel", "chances", "(II)V"⟩, 29) := ⟨⟨by decide +kernel, by decide +kernel⟩, List.mem_of_getElem? (i := 1085) (by decide +kernel), List.mem_of_getElem? (i := 1346) (by decide +kernel), List.mem_of_getElem? (i := 1347) (by decide +kernel)⟩
theorem lw_p35 : lw_okq (⟨"FareLimitsModel", "turnedOf", "(I)D"⟩, 29) := ⟨⟨by decide +kernel, by decide +kernel⟩, List.mem_of_getElem? (i := 1085) (by decide +kernel), List.mem_of_getElem? (i := 1354) (by decide +kernel), List.mem_of_getElem? (i := 1355) (by decide +kernel)⟩
theorem lw_p36 : lw_okq (⟨"FareLimitsModel", "hadOf", "(II)D"⟩, 29) := ⟨⟨by decide +kernel, by decide +kernel⟩, List.mem_of_getElem? (i := 1085) (by decide +kernel), List.mem_of_getElem? (i := 1362) (by decide +kernel), List.mem_of_getElem? (i := 1363) (by decide +kernel)⟩
theorem lw_p37 : lw_okq (⟨"FareLimitsModel", "setsOf", "(II)J"⟩, 29) := ⟨⟨by decide +kernel, by decide +kernel⟩, List.mem_of_getElem? (i := 1085) (by decide +kernel), List.mem_of_getElem? (i := 1374) (by decide +kernel), List.mem_of_getElem? (i := 1375) (by decide +kernel)⟩
theorem lw_p38 : lw_okq (⟨"FareLimitsModel", "asks", "(II)V"⟩, 29) := ⟨⟨by decide +kernel, by decide +kernel⟩, List.mem_of_getElem? (i := 1085) (by decide +kernel), List.mem_of_getElem? (i := 1382) (by decide +kernel), List.mem_of_getElem? (i := 1383) (by decide +kernel)⟩
theorem lw_p39 : lw_okq (⟨"FareLimitsModel", "opens", "()V"⟩, 29) := ⟨⟨by decide +kernel, by decide +kernel⟩, List.mem_of_getElem? (i := 1085) (by decide +kernel), List.mem_of_getElem? (i := 1402) (by decide +kernel), List.mem_of_getElem? (i := 1403) (by decide +kernel)⟩
theorem lw_p40 : lw_okq (⟨"FareLimitsModel", "drawnFare", "(I)I"⟩, 29) := ⟨⟨by decide +kernel, by decide +kernel⟩, List.mem_of_getElem? (i := 1085) (by decide +kernel), List.mem_of_getElem? (i := 1406) (by decide +kernel), List.mem_of_getElem? (i := 1407) (by decide +kernel)⟩
theorem lw_p41 : lw_okq (⟨"FareLimitsModel", "has", "(III)Z"⟩, 29) := ⟨⟨by decide +kernel, by decide +kernel⟩, List.mem_of_getElem? (i := 1085) (by decide +kernel), List.mem_of_getElem? (i := 1411) (by decide +kernel), List.mem_of_getElem? (i := 1412) (by decide +kernel)⟩
theorem lw_p42 : lw_okq (⟨"FareLimitsModel", "isByHand", "(I)Z"⟩, 29) := ⟨⟨by decide +kernel, by decide +kernel⟩, List.mem_of_getElem? (i := 1085) (by decide +kernel), List.mem_of_getElem? (i := 1415) (by decide +kernel), List.mem_of_getElem? (i := 1416) (by decide +kernel)⟩
theorem lw_p43 : lw_okq (⟨"FareLimitsModel", "isRoute", "(I)Z"⟩, 29) := ⟨⟨by decide +kernel, by decide +kernel⟩, List.mem_of_getElem? (i := 1085) (by decide +kernel), List.mem_of_getElem? (i := 1431) (by decide +kernel), List.mem_of_getElem? (i := 1432) (by decide +kernel)⟩
theorem lw_p44 : lw_okq (⟨"FareLimitsModel", "isOver", "(II)Z"⟩, 29) := ⟨⟨by decide +kernel, by decide +kernel⟩, List.mem_of_getElem? (i := 1085) (by decide +kernel), List.mem_of_getElem? (i := 1435) (by decide +kernel), List.mem_of_getElem? (i := 1436) (by decide +kernel)⟩
theorem lw_p45 : lw_okq (⟨"FareLimitsModel", "legs", "(I)I"⟩, 29) := ⟨⟨by decide +kernel, by decide +kernel⟩, List.mem_of_getElem? (i := 1085) (by decide +kernel), List.mem_of_getElem? (i := 1439) (by decide +kernel), List.mem_of_getElem? (i := 1440) (by decide +kernel)⟩
theorem lw_p46 : lw_okq (⟨"FareLimitsModel", "partOf", "(II)F"⟩, 29) := ⟨⟨by decide +kernel, by decide +kernel⟩, List.mem_of_getElem? (i := 1085) (by decide +kernel), List.mem_of_getElem? (i := 1443) (by decide +kernel), List.mem_of_getElem? (i := 1444) (by decide +kernel)⟩
theorem lw_p47 : lw_okq (⟨"FareLimitsModel", "fee", "(I)I"⟩, 29) := ⟨⟨by decide +kernel, by decide +kernel⟩, List.mem_of_getElem? (i := 1085) (by decide +kernel), List.mem_of_getElem? (i := 1447) (by decide +kernel), List.mem_of_getElem? (i := 1448) (by decide +kernel)⟩
def lw_privs_3 : List (MethodName × Nat) := [(⟨"FareLimitsModel", "plus", "(JJ)J"⟩, 29), (⟨"FareLimitsModel", "isTaken", "(III)Z"⟩, 29), (⟨"FareLimitsModel", "chances", "(II)V"⟩, 29), (⟨"FareLimitsModel", "turnedOf", "(I)D"⟩, 29), (⟨"FareLimitsModel", "hadOf", "(II)D"⟩, 29), (⟨"FareLimitsModel", "setsOf", "(II)J"⟩, 29), (⟨"FareLimitsModel", "asks", "(II)V"⟩, 29), (⟨"FareLimitsModel", "opens", "()V"⟩, 29), (⟨"FareLimitsModel", "drawnFare", "(I)I"⟩, 29), (⟨"FareLimitsModel", "has", "(III)Z"⟩, 29), (⟨"FareLimitsModel", "isByHand", "(I)Z"⟩, 29), (⟨"FareLimitsModel", "isRoute", "(I)Z"⟩, 29), (⟨"FareLimitsModel", "isOver", "(II)Z"⟩, 29), (⟨"FareLimitsModel", "legs", "(I)I"⟩, 29), (⟨"FareLimitsModel", "partOf", "(II)F"⟩, 29), (⟨"FareLimitsModel", "fee", "(I)I"⟩, 29)]
theorem lw_r3 : ∀ q ∈ lw_privs_3, lw_okq q := List.forall_mem_cons.mpr ⟨lw_p32, List.forall_mem_cons.mpr ⟨lw_p33, List.forall_mem_cons.mpr ⟨lw_p34, List.forall_mem_cons.mpr ⟨lw_p35, List.forall_mem_cons.mpr ⟨lw_p36, List.forall_mem_cons.mpr ⟨lw_p37, List.forall_mem_cons.mpr ⟨lw_p38, List.forall_mem_cons.mpr ⟨lw_p39, List.forall_mem_cons.mpr ⟨lw_p40, List.forall_mem_cons.mpr ⟨lw_p41, List.forall_mem_cons.mpr ⟨lw_p42, List.forall_mem_cons.mpr ⟨lw_p43, List.forall_mem_cons.mpr ⟨lw_p44, List.forall_mem_cons.mpr ⟨lw_p45, List.forall_mem_cons.mpr ⟨lw_p46, List.forall_mem_cons.mpr ⟨lw_p47, fun _ h => absurd h List.not_mem_nil⟩⟩⟩⟩⟩⟩⟩⟩⟩⟩⟩⟩⟩⟩⟩⟩
theorem lw_p48 : lw_okq (⟨"FareLimitsModel", "costOf", "(I)F"⟩, 29) := ⟨⟨by decide +kernel, by decide +kernel⟩, List.mem_of_getElem? (i := 1085) (by decide +kernel), List.mem_of_getElem? (i := 1455) (by decide +kernel), List.mem_of_getElem? (i := 1456) (by decide +kernel)⟩
theorem lw_p49 : lw_okq (⟨"FareLimitsModel", "wanted", "(I)I"⟩, 29) := ⟨⟨by decide +kernel, by decide +kernel⟩, List.mem_of_getElem? (i := 1085) (by decide +kernel), List.mem_of_getElem? (i := 1459) (by decide +kernel), List.mem_of_getElem? (i := 1460) (by decide +kernel)⟩
theorem lw_p50 : lw_okq (⟨"FareLimitsModel", "letters", "(I)I"⟩, 29) := ⟨⟨by decide +kernel, by decide +kernel⟩, List.mem_of_getElem? (i := 1085) (by decide +kernel), List.mem_of_getElem? (i := 1467) (by decide +kernel), List.mem_of_getElem? (i := 1468) (by decide +kernel)⟩
theorem lw_p51 : lw_okq (⟨"FareLimitsModel", "isIn", "(I)Z"⟩, 29) := ⟨⟨by decide +kernel, by decide +kernel⟩, List.mem_of_getElem? (i := 1085) (by decide +kernel), List.mem_of_getElem? (i := 1471) (by decide +kernel), List.mem_of_getElem? (i := 1472) (by decide +kernel)⟩
theorem lw_p52 : lw_okq (⟨"FareLimitsModel", "readRoute", "()V"⟩, 29) := ⟨⟨by decide +kernel, by decide +kernel⟩, List.mem_of_getElem? (i := 1085) (by decide +kernel), List.mem_of_getElem? (i := 1491) (by decide +kernel), List.mem_of_getElem? (i := 1492) (by decide +kernel)⟩
theorem lw_p53 : lw_okq (⟨"FareLimitsModel", "wrong", "(I)V"⟩, 29) := ⟨⟨by decide +kernel, by decide +kernel⟩, List.mem_of_getElem? (i := 1085) (by decide +kernel), List.mem_of_getElem? (i := 1495) (by decide +kernel), List.mem_of_getElem? (i := 1496) (by decide +kernel)⟩
theorem lw_p54 : lw_okq (⟨"FareLimitsModel", "name", "()V"⟩, 29) := ⟨⟨by decide +kernel, by decide +kernel⟩, List.mem_of_getElem? (i := 1085) (by decide +kernel), List.mem_of_getElem? (i := 1499) (by decide +kernel), List.mem_of_getElem? (i := 1500) (by decide +kernel)⟩
theorem lw_p55 : lw_okq (⟨"FareLimitsModel", "isSign", "(II)Z"⟩, 29) := ⟨⟨by decide +kernel, by decide +kernel⟩, List.mem_of_getElem? (i := 1085) (by decide +kernel), List.mem_of_getElem? (i := 1503) (by decide +kernel), List.mem_of_getElem? (i := 1504) (by decide +kernel)⟩
theorem lw_p56 : lw_okq (⟨"FareLimitsModel", "by", "(I)I"⟩, 29) := ⟨⟨by decide +kernel, by decide +kernel⟩, List.mem_of_getElem? (i := 1085) (by decide +kernel), List.mem_of_getElem? (i := 1507) (by decide +kernel), List.mem_of_getElem? (i := 1508) (by decide +kernel)⟩
theorem lw_p57 : lw_okq (⟨"FareLimitsModel", "needs", "(I)V"⟩, 29) := ⟨⟨by decide +kernel, by decide +kernel⟩, List.mem_of_getElem? (i := 1085) (by decide +kernel), List.mem_of_getElem? (i := 1511) (by decide +kernel), List.mem_of_getElem? (i := 1512) (by decide +kernel)⟩
theorem lw_p58 : lw_okq (⟨"FareLimitsModel", "takes", "(I)Z"⟩, 29) := ⟨⟨by decide +kernel, by decide +kernel⟩, List.mem_of_getElem? (i := 1085) (by decide +kernel), List.mem_of_getElem? (i := 1515) (by decide +kernel), List.mem_of_getElem? (i := 1516) (by decide +kernel)⟩
theorem lw_p59 : lw_okq (⟨"FareLimitsModel", "number", "(II)I"⟩, 29) := ⟨⟨by decide +kernel, by decide +kernel⟩, List.mem_of_getElem? (i := 1085) (by decide +kernel), List.mem_of_getElem? (i := 1519) (by decide +kernel), List.mem_of_getElem? (i := 1520) (by decide +kernel)⟩
theorem lw_p60 : lw_okq (⟨"FareLimitsModel", "comes", "()V"⟩, 29) := ⟨⟨by decide +kernel, by decide +kernel⟩, List.mem_of_getElem? (i := 1085) (by decide +kernel), List.mem_of_getElem? (i := 1523) (by decide +kernel), List.mem_of_getElem? (i := 1524) (by decide +kernel)⟩
theorem lw_p61 : lw_okq (⟨"FareLimitsModel", "goes", "(I)I"⟩, 29) := ⟨⟨by decide +kernel, by decide +kernel⟩, List.mem_of_getElem? (i := 1085) (by decide +kernel), List.mem_of_getElem? (i := 1536) (by decide +kernel), List.mem_of_getElem? (i := 1537) (by decide +kernel)⟩
theorem lw_p62 : lw_okq (⟨"FareLimitsModel", "wrongSign", "()I"⟩, 29) := ⟨⟨by decide +kernel, by decide +kernel⟩, List.mem_of_getElem? (i := 1085) (by decide +kernel), List.mem_of_getElem? (i := 1540) (by decide +kernel), List.mem_of_getElem? (i := 1541) (by decide +kernel)⟩
theorem lw_p63 : lw_okq (⟨"FareLimitsModel", "behind", "(I)I"⟩, 29) := ⟨⟨by decide +kernel, by decide +kernel⟩, List.mem_of_getElem? (i := 1085) (by decide +kernel), List.mem_of_getElem? (i := 1544) (by decide +kernel), List.mem_of_getElem? (i := 1545) (by decide +kernel)⟩
def lw_privs_4 : List (MethodName × Nat) := [(⟨"FareLimitsModel", "costOf", "(I)F"⟩, 29), (⟨"FareLimitsModel", "wanted", "(I)I"⟩, 29), (⟨"FareLimitsModel", "letters", "(I)I"⟩, 29), (⟨"FareLimitsModel", "isIn", "(I)Z"⟩, 29), (⟨"FareLimitsModel", "readRoute", "()V"⟩, 29), (⟨"FareLimitsModel", "wrong", "(I)V"⟩, 29), (⟨"FareLimitsModel", "name", "()V"⟩, 29), (⟨"FareLimitsModel", "isSign", "(II)Z"⟩, 29), (⟨"FareLimitsModel", "by", "(I)I"⟩, 29), (⟨"FareLimitsModel", "needs", "(I)V"⟩, 29), (⟨"FareLimitsModel", "takes", "(I)Z"⟩, 29), (⟨"FareLimitsModel", "number", "(II)I"⟩, 29), (⟨"FareLimitsModel", "comes", "()V"⟩, 29), (⟨"FareLimitsModel", "goes", "(I)I"⟩, 29), (⟨"FareLimitsModel", "wrongSign", "()I"⟩, 29), (⟨"FareLimitsModel", "behind", "(I)I"⟩, 29)]
theorem lw_r4 : ∀ q ∈ lw_privs_4, lw_okq q := List.forall_mem_cons.mpr ⟨lw_p48, List.forall_mem_cons.mpr ⟨lw_p49, List.forall_mem_cons.mpr ⟨lw_p50, List.forall_mem_cons.mpr ⟨lw_p51, List.forall_mem_cons.mpr ⟨lw_p52, List.forall_mem_cons.mpr ⟨lw_p53, List.forall_mem_cons.mpr ⟨lw_p54, List.forall_mem_cons.mpr ⟨lw_p55, List.forall_mem_cons.mpr ⟨lw_p56, List.forall_mem_cons.mpr ⟨lw_p57, List.forall_mem_cons.mpr ⟨lw_p58, List.forall_mem_cons.mpr ⟨lw_p59, List.forall_mem_cons.mpr ⟨lw_p60, List.forall_mem_cons.mpr ⟨lw_p61, List.forall_mem_cons.mpr ⟨lw_p62, List.forall_mem_cons.mpr ⟨lw_p63, fun _ h => absurd h List.not_mem_nil⟩⟩⟩⟩⟩⟩⟩⟩⟩⟩⟩⟩⟩⟩⟩⟩
theorem lw_p64 : lw_okq (⟨"FareLimitsModel", "writes", "(I)V"⟩, 29) := ⟨⟨by decide +kernel, by decide +kernel⟩, List.mem_of_getElem? (i := 1085) (by decide +kernel), List.mem_of_getElem? (i := 1556) (by decide +kernel), List.mem_of_getElem? (i := 1557) (by decide +kernel)⟩
theorem lw_p65 : lw_okq (⟨"FareLimitsModel", "writesNumber", "(I)V"⟩, 29) := ⟨⟨by decide +kernel, by decide +kernel⟩, List.mem_of_getElem? (i := 1085) (by decide +kernel), List.mem_of_getElem? (i := 1560) (by decide +kernel), List.mem_of_getElem? (i := 1561) (by decide +kernel)⟩
theorem lw_p66 : lw_okq (⟨"FareLimitsModel", "unlike", "()I"⟩, 29) := ⟨⟨by decide +kernel, by decide +kernel⟩, List.mem_of_getElem? (i := 1085) (by decide +kernel), List.mem_of_getElem? (i := 1576) (by decide +kernel), List.mem_of_getElem? (i := 1577) (by decide +kernel)⟩
theorem lw_p67 : lw_okq (⟨"FareLimitsModel", "greatest", "()I"⟩, 29) := ⟨⟨by decide +kernel, by decide +kernel⟩, List.mem_of_getElem? (i := 1085) (by decide +kernel), List.mem_of_getElem? (i := 1580) (by decide +kernel), List.mem_of_getElem? (i := 1581) (by decide +kernel)⟩
theorem lw_p68 : lw_okq (⟨"FareLimitsModel", "whyNot", "(II)I"⟩, 29) := ⟨⟨by decide +kernel, by decide +kernel⟩, List.mem_of_getElem? (i := 1085) (by decide +kernel), List.mem_of_getElem? (i := 1595) (by decide +kernel), List.mem_of_getElem? (i := 1596) (by decide +kernel)⟩
def lw_privs_5 : List (MethodName × Nat) := [(⟨"FareLimitsModel", "writes", "(I)V"⟩, 29), (⟨"FareLimitsModel", "writesNumber", "(I)V"⟩, 29), (⟨"FareLimitsModel", "unlike", "()I"⟩, 29), (⟨"FareLimitsModel", "greatest", "()I"⟩, 29), (⟨"FareLimitsModel", "whyNot", "(II)I"⟩, 29)]
theorem lw_r5 : ∀ q ∈ lw_privs_5, lw_okq q := List.forall_mem_cons.mpr ⟨lw_p64, List.forall_mem_cons.mpr ⟨lw_p65, List.forall_mem_cons.mpr ⟨lw_p66, List.forall_mem_cons.mpr ⟨lw_p67, List.forall_mem_cons.mpr ⟨lw_p68, fun _ h => absurd h List.not_mem_nil⟩⟩⟩⟩⟩
def lw_privs : List (MethodName × Nat) := lw_privs_1 ++ (lw_privs_2 ++ (lw_privs_3 ++ (lw_privs_4 ++ (lw_privs_5))))
def lw_tbl : List Cond := k2_sels lw_privs ++ tables_1
theorem lw_privs_ok : ∀ q ∈ lw_privs, lw_okq q := by
  show ∀ q ∈ lw_privs_1 ++ (lw_privs_2 ++ (lw_privs_3 ++ (lw_privs_4 ++ (lw_privs_5)))), lw_okq q
  exact List.forall_mem_append.mpr ⟨lw_r1, List.forall_mem_append.mpr ⟨lw_r2, List.forall_mem_append.mpr ⟨lw_r3, List.forall_mem_append.mpr ⟨lw_r4, lw_r5⟩⟩⟩⟩
/-- the streams that the claim lets the run draw from -/
abbrev lw_cs : List Choice := [Jvm.Choice.named "NaN.bits"]
theorem lw_bits : nanBits ∈ lw_cs := by first | decide | exact List.mem_cons_self | simp [lw_cs, nanBits]

def RX0 : String := "FareLimits$Chances"
def TX0 : u_T := fun k => match k with
  | 0 => ("FareLimits$Chances", "plan", "LFareLimits$Plan;", true)
  | _ => ("FareLimits$Chances", "row", "[D", true)
def tyX0 : Nat → FieldType := fun k => match k with
  | 0 => .object "FareLimits$Plan"
  | _ => .array .double
abbrev wsX00 : List Cond := u_ws RX0 TX0 2
theorem nmX0 : ∀ a, a < 2 → ∀ b, b < 2 → a ≠ b → (TX0 a).2.1 ≠ (TX0 b).2.1 := by decide +kernel
theorem tyX0_ok : ∀ k, k < 2 → parseFieldDescriptor (TX0 k).2.2.1 = some (tyX0 k) := by decide +kernel
abbrev cX0_init : ByteArray := prog_2_method_1_code
def yX0_init : MethodName := ⟨RX0, "<init>", "(LFareLimits$Plan;)V"⟩
abbrev cX0_ofShowing : ByteArray := prog_2_method_2_code
def yX0_ofShowing : MethodName := ⟨RX0, "ofShowing", "(II)[D"⟩
abbrev cX0_ofAsking : ByteArray := prog_2_method_3_code
def yX0_ofAsking : MethodName := ⟨RX0, "ofAsking", "(II)[D"⟩
abbrev cX0_begin : ByteArray := prog_2_method_4_code
def yX0_begin : MethodName := ⟨RX0, "begin", "()V"⟩
abbrev cX0_oneMore : ByteArray := prog_2_method_5_code
def yX0_oneMore : MethodName := ⟨RX0, "oneMore", "(IDD)V"⟩
abbrev cX0_expectedAbove : ByteArray := prog_2_method_6_code
def yX0_expectedAbove : MethodName := ⟨RX0, "expectedAbove", "(II)D"⟩
abbrev cX0_takings : ByteArray := prog_2_method_7_code
def yX0_takings : MethodName := ⟨RX0, "takings", "(II)D"⟩
abbrev cX0_bestBooked : ByteArray := prog_2_method_8_code
def yX0_bestBooked : MethodName := ⟨RX0, "bestBooked", "(II)I"⟩
def RX1 : String := "FareLimits$Day"
def TX1 : u_T := fun k => match k with
  | 0 => ("FareLimits$Day", "plan", "LFareLimits$Plan;", true)
  | 1 => ("FareLimits$Day", "worths", "LFareLimits$Worths;", true)
  | 2 => ("FareLimits$Day", "pricesAsked", "[I", true)
  | 3 => ("FareLimits$Day", "pricesHad", "[I", true)
  | 4 => ("FareLimits$Day", "left", "I", false)
  | 5 => ("FareLimits$Day", "asked", "I", false)
  | 6 => ("FareLimits$Day", "count", "I", false)
  | 7 => ("FareLimits$Day", "prices", "I", false)
  | _ => ("FareLimits$Day", "places", "I", false)
def tyX1 : Nat → FieldType := fun k => match k with
  | 0 => .object "FareLimits$Plan"
  | 1 => .object "FareLimits$Worths"
  | 2 => .array .int
  | 3 => .array .int
  | 4 => .int
  | 5 => .int
  | 6 => .int
  | 7 => .int
  | _ => .int
abbrev wsX10 : List Cond := u_ws RX1 TX1 9
theorem nmX1 : ∀ a, a < 9 → ∀ b, b < 9 → a ≠ b → (TX1 a).2.1 ≠ (TX1 b).2.1 := by decide +kernel
theorem tyX1_ok : ∀ k, k < 9 → parseFieldDescriptor (TX1 k).2.2.1 = some (tyX1 k) := by decide +kernel
abbrev cX1_init : ByteArray := prog_3_method_1_code
def yX1_init : MethodName := ⟨RX1, "<init>", "(LFareLimits$Plan;LFareLimits$Worths;)V"⟩
abbrev cX1_begin : ByteArray := prog_3_method_2_code
def yX1_begin : MethodName := ⟨RX1, "begin", "()V"⟩
abbrev cX1_ask : ByteArray := prog_3_method_3_code
def yX1_ask : MethodName := ⟨RX1, "ask", "(IIII)V"⟩
abbrev cX1_handGives : ByteArray := prog_3_method_4_code
def yX1_handGives : MethodName := ⟨RX1, "handGives", "(I)Z"⟩
abbrev cX1_draw : ByteArray := prog_3_method_5_code
def yX1_draw : MethodName := ⟨RX1, "draw", "(II)V"⟩
abbrev cX1_fareDrawn : ByteArray := prog_3_method_6_code
def yX1_fareDrawn : MethodName := ⟨RX1, "fareDrawn", "(II)I"⟩
abbrev cX1_pricesBehind : ByteArray := prog_3_method_7_code
def yX1_pricesBehind : MethodName := ⟨RX1, "pricesBehind", "()I"⟩
def RX2 : String := "FareLimits$Fare"
def TX2 : u_T := fun k => match k with
  | 0 => ("FareLimits$Fare", "kind", "LFareLimits$Kind;", false)
  | 1 => ("FareLimits$Fare", "price", "I", false)
  | 2 => ("FareLimits$Fare", "hand", "I", false)
  | _ => ("FareLimits$Fare", "odds", "[I", true)
def tyX2 : Nat → FieldType := fun k => match k with
  | 0 => .object "FareLimits$Kind"
  | 1 => .int
  | 2 => .int
  | _ => .array .int
abbrev wsX20 : List Cond := u_ws RX2 TX2 4
theorem nmX2 : ∀ a, a < 4 → ∀ b, b < 4 → a ≠ b → (TX2 a).2.1 ≠ (TX2 b).2.1 := by decide +kernel
theorem tyX2_ok : ∀ k, k < 4 → parseFieldDescriptor (TX2 k).2.2.1 = some (tyX2 k) := by decide +kernel
abbrev cX2_init : ByteArray := prog_4_method_1_code
def yX2_init : MethodName := ⟨RX2, "<init>", "()V"⟩
abbrev cX2_begin : ByteArray := prog_4_method_2_code
def yX2_begin : MethodName := ⟨RX2, "begin", "(LFareLimits$Kind;I)V"⟩
abbrev cX2_become : ByteArray := prog_4_method_3_code
def yX2_become : MethodName := ⟨RX2, "become", "(LFareLimits$Fare;)V"⟩
def RX3 : String := "FareLimits$Kind"
def TX3 : u_T := fun k => match k with
  | _ => ("", "", "", false)
def tyX3 : Nat → FieldType := fun k => match k with
  | _ => .int
abbrev wsX30 : List Cond := u_ws RX3 TX3 0
theorem nmX3 : ∀ a, a < 0 → ∀ b, b < 0 → a ≠ b → (TX3 a).2.1 ≠ (TX3 b).2.1 := by decide +kernel
theorem tyX3_ok : ∀ k, k < 0 → parseFieldDescriptor (TX3 k).2.2.1 = some (tyX3 k) := by decide +kernel
abbrev cX3_isOf : ByteArray := prog_5_method_4_code
def yX3_isOf : MethodName := ⟨RX3, "isOf", "(LFareLimits$Kind;)Z"⟩
def RX4 : String := "FareLimits$Network"
def TX4 : u_T := fun k => match k with
  | 0 => ("FareLimits$Network", "lengths", "[I", true)
  | 1 => ("FareLimits$Network", "frees", "[I", true)
  | 2 => ("FareLimits$Network", "routes", "[LFareLimits$Route;", true)
  | _ => ("FareLimits$Network", "count", "I", false)
def tyX4 : Nat → FieldType := fun k => match k with
  | 0 => .array .int
  | 1 => .array .int
  | 2 => .array (.object "FareLimits$Route")
  | _ => .int
abbrev wsX40 : List Cond := u_ws RX4 TX4 4
theorem nmX4 : ∀ a, a < 4 → ∀ b, b < 4 → a ≠ b → (TX4 a).2.1 ≠ (TX4 b).2.1 := by decide +kernel
theorem tyX4_ok : ∀ k, k < 4 → parseFieldDescriptor (TX4 k).2.2.1 = some (tyX4 k) := by decide +kernel
abbrev cX4_init : ByteArray := prog_6_method_1_code
def yX4_init : MethodName := ⟨RX4, "<init>", "()V"⟩
abbrev cX4_become : ByteArray := prog_6_method_2_code
def yX4_become : MethodName := ⟨RX4, "become", "(LFareLimits$Network;)V"⟩
abbrev cX4_placeOf : ByteArray := prog_6_method_3_code
def yX4_placeOf : MethodName := ⟨RX4, "placeOf", "(I)I"⟩
abbrev cX4_add : ByteArray := prog_6_method_4_code
def yX4_add : MethodName := ⟨RX4, "add", "(LFareLimits$Route;)V"⟩
abbrev cX4_remove : ByteArray := prog_6_method_5_code
def yX4_remove : MethodName := ⟨RX4, "remove", "(I)V"⟩
abbrev cX4_partOf : ByteArray := prog_6_method_6_code
def yX4_partOf : MethodName := ⟨RX4, "partOf", "(LFareLimits$Route;I)F"⟩
abbrev cX4_costOf : ByteArray := prog_6_method_7_code
def yX4_costOf : MethodName := ⟨RX4, "costOf", "(I)F"⟩
abbrev cX4_dearestBut : ByteArray := prog_6_method_8_code
def yX4_dearestBut : MethodName := ⟨RX4, "dearestBut", "(II)I"⟩
abbrev cX4_letsIn : ByteArray := prog_6_method_9_code
def yX4_letsIn : MethodName := ⟨RX4, "letsIn", "(LFareLimits$Route;)Z"⟩
abbrev cX4_spellOn : ByteArray := prog_6_method_10_code
def yX4_spellOn : MethodName := ⟨RX4, "spellOn", "(Ljava/lang/StringBuilder;)V"⟩
abbrev cX4_spellRoute : ByteArray := prog_6_method_11_code
def yX4_spellRoute : MethodName := ⟨RX4, "spellRoute", "(Ljava/lang/StringBuilder;LFareLimits$Route;)V"⟩
def RX5 : String := "FareLimits$Plan"
def TX5 : u_T := fun k => match k with
  | 0 => ("FareLimits$Plan", "fares", "[LFareLimits$Fare;", true)
  | 1 => ("FareLimits$Plan", "fareCount", "I", false)
  | 2 => ("FareLimits$Plan", "rules", "[I", true)
  | 3 => ("FareLimits$Plan", "network", "LFareLimits$Network;", true)
  | _ => ("FareLimits$Plan", "seed", "I", false)
def tyX5 : Nat → FieldType := fun k => match k with
  | 0 => .array (.object "FareLimits$Fare")
  | 1 => .int
  | 2 => .array .int
  | 3 => .object "FareLimits$Network"
  | _ => .int
abbrev wsX50 : List Cond := u_ws RX5 TX5 5
theorem nmX5 : ∀ a, a < 5 → ∀ b, b < 5 → a ≠ b → (TX5 a).2.1 ≠ (TX5 b).2.1 := by decide +kernel
theorem tyX5_ok : ∀ k, k < 5 → parseFieldDescriptor (TX5 k).2.2.1 = some (tyX5 k) := by decide +kernel
abbrev cX5_init : ByteArray := prog_7_method_1_code
def yX5_init : MethodName := ⟨RX5, "<init>", "()V"⟩
abbrev cX5_become : ByteArray := prog_7_method_2_code
def yX5_become : MethodName := ⟨RX5, "become", "(LFareLimits$Plan;)V"⟩
abbrev cX5_hasFare : ByteArray := prog_7_method_3_code
def yX5_hasFare : MethodName := ⟨RX5, "hasFare", "(I)Z"⟩
abbrev cX5_oddsTogether : ByteArray := prog_7_method_4_code
def yX5_oddsTogether : MethodName := ⟨RX5, "oddsTogether", "(I)I"⟩
abbrev cX5_unlikePrices : ByteArray := prog_7_method_5_code
def yX5_unlikePrices : MethodName := ⟨RX5, "unlikePrices", "()I"⟩
abbrev cX5_greatestPrice : ByteArray := prog_7_method_6_code
def yX5_greatestPrice : MethodName := ⟨RX5, "greatestPrice", "()I"⟩
abbrev cX5_showing : ByteArray := prog_7_method_7_code
def yX5_showing : MethodName := ⟨RX5, "showing", "(I)D"⟩
abbrev cX5_netBy : ByteArray := prog_7_method_8_code
def yX5_netBy : MethodName := ⟨RX5, "netBy", "(ID)D"⟩
def RX6 : String := "FareLimits$Route"
def TX6 : u_T := fun k => match k with
  | 0 => ("FareLimits$Route", "name", "I", true)
  | 1 => ("FareLimits$Route", "legs", "I", true)
  | 2 => ("FareLimits$Route", "price", "I", true)
  | _ => ("FareLimits$Route", "wanted", "I", true)
def tyX6 : Nat → FieldType := fun k => match k with
  | 0 => .int
  | 1 => .int
  | 2 => .int
  | _ => .int
abbrev wsX60 : List Cond := u_ws RX6 TX6 4
theorem nmX6 : ∀ a, a < 4 → ∀ b, b < 4 → a ≠ b → (TX6 a).2.1 ≠ (TX6 b).2.1 := by decide +kernel
theorem tyX6_ok : ∀ k, k < 4 → parseFieldDescriptor (TX6 k).2.2.1 = some (tyX6 k) := by decide +kernel
abbrev cX6_init : ByteArray := prog_8_method_1_code
def yX6_init : MethodName := ⟨RX6, "<init>", "(IIII)V"⟩
abbrev cX6_withLetter : ByteArray := prog_8_method_2_code
def yX6_withLetter : MethodName := ⟨RX6, "withLetter", "(III)I"⟩
abbrev cX6_letter : ByteArray := prog_8_method_3_code
def yX6_letter : MethodName := ⟨RX6, "letter", "(I)I"⟩
abbrev cX6_letters : ByteArray := prog_8_method_4_code
def yX6_letters : MethodName := ⟨RX6, "letters", "()I"⟩
abbrev cX6_goesOver : ByteArray := prog_8_method_5_code
def yX6_goesOver : MethodName := ⟨RX6, "goesOver", "(I)Z"⟩
def RX7 : String := "FareLimits$Tape"
def TX7 : u_T := fun k => match k with
  | 0 => ("FareLimits$Tape", "bytes", "[I", true)
  | 1 => ("FareLimits$Tape", "size", "I", false)
  | 2 => ("FareLimits$Tape", "read", "[LFareLimits$Route;", true)
  | 3 => ("FareLimits$Tape", "readCount", "I", false)
  | 4 => ("FareLimits$Tape", "at", "I", false)
  | 5 => ("FareLimits$Tape", "name", "I", false)
  | 6 => ("FareLimits$Tape", "legs", "I", false)
  | 7 => ("FareLimits$Tape", "price", "I", false)
  | _ => ("FareLimits$Tape", "wanted", "I", false)
def tyX7 : Nat → FieldType := fun k => match k with
  | 0 => .array .int
  | 1 => .int
  | 2 => .array (.object "FareLimits$Route")
  | 3 => .int
  | 4 => .int
  | 5 => .int
  | 6 => .int
  | 7 => .int
  | _ => .int
abbrev wsX70 : List Cond := u_ws RX7 TX7 9
theorem nmX7 : ∀ a, a < 9 → ∀ b, b < 9 → a ≠ b → (TX7 a).2.1 ≠ (TX7 b).2.1 := by decide +kernel
theorem tyX7_ok : ∀ k, k < 9 → parseFieldDescriptor (TX7 k).2.2.1 = some (tyX7 k) := by decide +kernel
abbrev cX7_init : ByteArray := prog_9_method_1_code
def yX7_init : MethodName := ⟨RX7, "<init>", "()V"⟩
abbrev cX7_takeUp : ByteArray := prog_9_method_2_code
def yX7_takeUp : MethodName := ⟨RX7, "takeUp", "(I)Z"⟩
abbrev cX7_wipe : ByteArray := prog_9_method_3_code
def yX7_wipe : MethodName := ⟨RX7, "wipe", "()V"⟩
abbrev cX7_byteAt : ByteArray := prog_9_method_4_code
def yX7_byteAt : MethodName := ⟨RX7, "byteAt", "(I)I"⟩
abbrev cX7_fareAsked : ByteArray := prog_9_method_5_code
def yX7_fareAsked : MethodName := ⟨RX7, "fareAsked", "(I)I"⟩
abbrev cX7_faultAsRequests : ByteArray := prog_9_method_6_code
def yX7_faultAsRequests : MethodName := ⟨RX7, "faultAsRequests", "(I)I"⟩
abbrev cX7_asName : ByteArray := prog_9_method_7_code
def yX7_asName : MethodName := ⟨RX7, "asName", "()I"⟩
abbrev cX7_faultAsBook : ByteArray := prog_9_method_8_code
def yX7_faultAsBook : MethodName := ⟨RX7, "faultAsBook", "(LFareLimits$Network;)I"⟩
abbrev cX7_faultOfPart : ByteArray := prog_9_method_9_code
def yX7_faultOfPart : MethodName := ⟨RX7, "faultOfPart", "(LFareLimits$Network;)I"⟩
abbrev cX7_faultOfSign : ByteArray := prog_9_method_10_code
def yX7_faultOfSign : MethodName := ⟨RX7, "faultOfSign", "(I)I"⟩
abbrev cX7_faultOfName : ByteArray := prog_9_method_11_code
def yX7_faultOfName : MethodName := ⟨RX7, "faultOfName", "(LFareLimits$Network;)I"⟩
abbrev cX7_isRead : ByteArray := prog_9_method_12_code
def yX7_isRead : MethodName := ⟨RX7, "isRead", "(I)Z"⟩
abbrev cX7_faultOfLegs : ByteArray := prog_9_method_13_code
def yX7_faultOfLegs : MethodName := ⟨RX7, "faultOfLegs", "()I"⟩
abbrev cX7_faultOfPrice : ByteArray := prog_9_method_14_code
def yX7_faultOfPrice : MethodName := ⟨RX7, "faultOfPrice", "()I"⟩
abbrev cX7_faultOfWanted : ByteArray := prog_9_method_15_code
def yX7_faultOfWanted : MethodName := ⟨RX7, "faultOfWanted", "()I"⟩
abbrev cX7_numberOf : ByteArray := prog_9_method_16_code
def yX7_numberOf : MethodName := ⟨RX7, "numberOf", "(I)I"⟩
def RX8 : String := "FareLimits$Tray"
def TX8 : u_T := fun k => match k with
  | 0 => ("FareLimits$Tray", "kind", "LFareLimits$Kind;", false)
  | 1 => ("FareLimits$Tray", "size", "I", false)
  | _ => ("FareLimits$Tray", "places", "[I", true)
def tyX8 : Nat → FieldType := fun k => match k with
  | 0 => .object "FareLimits$Kind"
  | 1 => .int
  | _ => .array .int
abbrev wsX80 : List Cond := u_ws RX8 TX8 3
theorem nmX8 : ∀ a, a < 3 → ∀ b, b < 3 → a ≠ b → (TX8 a).2.1 ≠ (TX8 b).2.1 := by decide +kernel
theorem tyX8_ok : ∀ k, k < 3 → parseFieldDescriptor (TX8 k).2.2.1 = some (tyX8 k) := by decide +kernel
abbrev cX8_init : ByteArray := prog_10_method_1_code
def yX8_init : MethodName := ⟨RX8, "<init>", "()V"⟩
abbrev cX8_begin : ByteArray := prog_10_method_2_code
def yX8_begin : MethodName := ⟨RX8, "begin", "(LFareLimits$Kind;I)V"⟩
abbrev cX8_become : ByteArray := prog_10_method_3_code
def yX8_become : MethodName := ⟨RX8, "become", "(LFareLimits$Tray;)V"⟩
def RX9 : String := "FareLimits$Whole"
def TX9 : u_T := fun k => match k with
  | 0 => ("FareLimits$Whole", "plan", "LFareLimits$Plan;", true)
  | _ => ("FareLimits$Whole", "row", "[J", true)
def tyX9 : Nat → FieldType := fun k => match k with
  | 0 => .object "FareLimits$Plan"
  | _ => .array .long
abbrev wsX90 : List Cond := u_ws RX9 TX9 2
theorem nmX9 : ∀ a, a < 2 → ∀ b, b < 2 → a ≠ b → (TX9 a).2.1 ≠ (TX9 b).2.1 := by decide +kernel
theorem tyX9_ok : ∀ k, k < 2 → parseFieldDescriptor (TX9 k).2.2.1 = some (tyX9 k) := by decide +kernel
abbrev cX9_init : ByteArray := prog_11_method_1_code
def yX9_init : MethodName := ⟨RX9, "<init>", "(LFareLimits$Plan;)V"⟩
abbrev cX9_times : ByteArray := prog_11_method_2_code
def yX9_times : MethodName := ⟨RX9, "times", "(JJ)J"⟩
abbrev cX9_plus : ByteArray := prog_11_method_3_code
def yX9_plus : MethodName := ⟨RX9, "plus", "(JJ)J"⟩
abbrev cX9_power : ByteArray := prog_11_method_4_code
def yX9_power : MethodName := ⟨RX9, "power", "(JI)J"⟩
abbrev cX9_grossOf : ByteArray := prog_11_method_5_code
def yX9_grossOf : MethodName := ⟨RX9, "grossOf", "(II)J"⟩
abbrev cX9_nextGross : ByteArray := prog_11_method_6_code
def yX9_nextGross : MethodName := ⟨RX9, "nextGross", "(IIJ)J"⟩
abbrev cX9_waysOf : ByteArray := prog_11_method_7_code
def yX9_waysOf : MethodName := ⟨RX9, "waysOf", "(III)J"⟩
abbrev cX9_setsOf : ByteArray := prog_11_method_8_code
def yX9_setsOf : MethodName := ⟨RX9, "setsOf", "(II)J"⟩
abbrev cX9_bitsOfDouble : ByteArray := prog_11_method_9_code
def yX9_bitsOfDouble : MethodName := ⟨RX9, "bitsOfDouble", "(D)J"⟩
abbrev cX9_bitsOfFloat : ByteArray := prog_11_method_10_code
def yX9_bitsOfFloat : MethodName := ⟨RX9, "bitsOfFloat", "(F)I"⟩
def RX10 : String := "FareLimits$Worths"
def TX10 : u_T := fun k => match k with
  | 0 => ("FareLimits$Worths", "plan", "LFareLimits$Plan;", true)
  | 1 => ("FareLimits$Worths", "rows", "[[D", true)
  | 2 => ("FareLimits$Worths", "nets", "[D", true)
  | _ => ("FareLimits$Worths", "made", "I", false)
def tyX10 : Nat → FieldType := fun k => match k with
  | 0 => .object "FareLimits$Plan"
  | 1 => .array (.array .double)
  | 2 => .array .double
  | _ => .int
abbrev wsX100 : List Cond := u_ws RX10 TX10 4
theorem nmX10 : ∀ a, a < 4 → ∀ b, b < 4 → a ≠ b → (TX10 a).2.1 ≠ (TX10 b).2.1 := by decide +kernel
theorem tyX10_ok : ∀ k, k < 4 → parseFieldDescriptor (TX10 k).2.2.1 = some (tyX10 k) := by decide +kernel
abbrev cX10_init : ByteArray := prog_12_method_1_code
def yX10_init : MethodName := ⟨RX10, "<init>", "(LFareLimits$Plan;)V"⟩
abbrev cX10_forget : ByteArray := prog_12_method_2_code
def yX10_forget : MethodName := ⟨RX10, "forget", "()V"⟩
abbrev cX10_row : ByteArray := prog_12_method_3_code
def yX10_row : MethodName := ⟨RX10, "row", "(I)[D"⟩
abbrev cX10_make : ByteArray := prog_12_method_4_code
def yX10_make : MethodName := ⟨RX10, "make", "(I)V"⟩
abbrev cX10_worthOf : ByteArray := prog_12_method_5_code
def yX10_worthOf : MethodName := ⟨RX10, "worthOf", "([DII)D"⟩
abbrev cX10_takes : ByteArray := prog_12_method_6_code
def yX10_takes : MethodName := ⟨RX10, "takes", "(III)Z"⟩
abbrev cX10_keptFrom : ByteArray := prog_12_method_7_code
def yX10_keptFrom : MethodName := ⟨RX10, "keptFrom", "(II)I"⟩
def RX11 : String := "FareLimits"
def TX11 : u_T := fun k => match k with
  | 0 => ("FareLimits", "plan", "LFareLimits$Plan;", true)
  | 1 => ("FareLimits", "picture", "LFareLimits$Plan;", true)
  | 2 => ("FareLimits", "pictured", "Z", false)
  | 3 => ("FareLimits", "worths", "LFareLimits$Worths;", true)
  | 4 => ("FareLimits", "whole", "LFareLimits$Whole;", true)
  | 5 => ("FareLimits", "chances", "LFareLimits$Chances;", true)
  | 6 => ("FareLimits", "tape", "LFareLimits$Tape;", true)
  | 7 => ("FareLimits", "day", "LFareLimits$Day;", true)
  | 8 => ("FareLimits", "page", "Ljava/lang/StringBuilder;", true)
  | 9 => ("FareLimits", "trays", "[LFareLimits$Tray;", true)
  | 10 => ("FareLimits", "lists", "[[J", true)
  | _ => ("FareLimits", "listSizes", "[I", true)
def tyX11 : Nat → FieldType := fun k => match k with
  | 0 => .object "FareLimits$Plan"
  | 1 => .object "FareLimits$Plan"
  | 2 => .boolean
  | 3 => .object "FareLimits$Worths"
  | 4 => .object "FareLimits$Whole"
  | 5 => .object "FareLimits$Chances"
  | 6 => .object "FareLimits$Tape"
  | 7 => .object "FareLimits$Day"
  | 8 => .object "java/lang/StringBuilder"
  | 9 => .array (.object "FareLimits$Tray")
  | 10 => .array (.array .long)
  | _ => .array .int
abbrev wsX110 : List Cond := u_ws RX11 TX11 12
theorem nmX11 : ∀ a, a < 12 → ∀ b, b < 12 → a ≠ b → (TX11 a).2.1 ≠ (TX11 b).2.1 := by decide +kernel
theorem tyX11_ok : ∀ k, k < 12 → parseFieldDescriptor (TX11 k).2.2.1 = some (tyX11 k) := by decide +kernel
abbrev cX11_init : ByteArray := prog_1_method_1_code
def yX11_init : MethodName := ⟨RX11, "<init>", "()V"⟩
abbrev cX11_fare : ByteArray := prog_1_method_2_code
def yX11_fare : MethodName := ⟨RX11, "fare", "(II)I"⟩
abbrev cX11_of : ByteArray := prog_1_method_3_code
def yX11_of : MethodName := ⟨RX11, "of", "(II)I"⟩
abbrev cX11_odds : ByteArray := prog_1_method_4_code
def yX11_odds : MethodName := ⟨RX11, "odds", "(III)I"⟩
abbrev cX11_drop : ByteArray := prog_1_method_5_code
def yX11_drop : MethodName := ⟨RX11, "drop", "()I"⟩
abbrev cX11_rule : ByteArray := prog_1_method_6_code
def yX11_rule : MethodName := ⟨RX11, "rule", "(II)I"⟩
abbrev cX11_hand : ByteArray := prog_1_method_7_code
def yX11_hand : MethodName := ⟨RX11, "hand", "(II)I"⟩
abbrev cX11_shows : ByteArray := prog_1_method_8_code
def yX11_shows : MethodName := ⟨RX11, "shows", "(I)J"⟩
abbrev cX11_net : ByteArray := prog_1_method_9_code
def yX11_net : MethodName := ⟨RX11, "net", "(II)J"⟩
abbrev cX11_netCut : ByteArray := prog_1_method_10_code
def yX11_netCut : MethodName := ⟨RX11, "netCut", "(II)I"⟩
abbrev cX11_worth : ByteArray := prog_1_method_11_code
def yX11_worth : MethodName := ⟨RX11, "worth", "(II)J"⟩
abbrev cX11_worthShort : ByteArray := prog_1_method_12_code
def yX11_worthShort : MethodName := ⟨RX11, "worthShort", "(II)I"⟩
abbrev cX11_gross : ByteArray := prog_1_method_13_code
def yX11_gross : MethodName := ⟨RX11, "gross", "(II)J"⟩
abbrev cX11_taken : ByteArray := prog_1_method_14_code
def yX11_taken : MethodName := ⟨RX11, "taken", "(III)I"⟩
abbrev cX11_kept : ByteArray := prog_1_method_15_code
def yX11_kept : MethodName := ⟨RX11, "kept", "(II)I"⟩
abbrev cX11_limit : ByteArray := prog_1_method_16_code
def yX11_limit : MethodName := ⟨RX11, "limit", "(II)I"⟩
abbrev cX11_chance : ByteArray := prog_1_method_17_code
def yX11_chance : MethodName := ⟨RX11, "chance", "(III)J"⟩
abbrev cX11_turned : ByteArray := prog_1_method_18_code
def yX11_turned : MethodName := ⟨RX11, "turned", "(II)J"⟩
abbrev cX11_had : ByteArray := prog_1_method_19_code
def yX11_had : MethodName := ⟨RX11, "had", "(III)J"⟩
abbrev cX11_booked : ByteArray := prog_1_method_20_code
def yX11_booked : MethodName := ⟨RX11, "booked", "(II)I"⟩
abbrev cX11_ways : ByteArray := prog_1_method_21_code
def yX11_ways : MethodName := ⟨RX11, "ways", "(III)J"⟩
abbrev cX11_demand : ByteArray := prog_1_method_22_code
def yX11_demand : MethodName := ⟨RX11, "demand", "(III)J"⟩
abbrev cX11_spill : ByteArray := prog_1_method_23_code
def yX11_spill : MethodName := ⟨RX11, "spill", "(III)J"⟩
abbrev cX11_leg : ByteArray := prog_1_method_24_code
def yX11_leg : MethodName := ⟨RX11, "leg", "(III)I"⟩
abbrev cX11_feed : ByteArray := prog_1_method_25_code
def yX11_feed : MethodName := ⟨RX11, "feed", "(I)I"⟩
abbrev cX11_clear : ByteArray := prog_1_method_26_code
def yX11_clear : MethodName := ⟨RX11, "clear", "()I"⟩
abbrev cX11_book : ByteArray := prog_1_method_27_code
def yX11_book : MethodName := ⟨RX11, "book", "()I"⟩
abbrev cX11_ends : ByteArray := prog_1_method_28_code
def yX11_ends : MethodName := ⟨RX11, "ends", "()I"⟩
abbrev cX11_route : ByteArray := prog_1_method_29_code
def yX11_route : MethodName := ⟨RX11, "route", "(II)I"⟩
abbrev cX11_part : ByteArray := prog_1_method_30_code
def yX11_part : MethodName := ⟨RX11, "part", "(II)I"⟩
abbrev cX11_cost : ByteArray := prog_1_method_31_code
def yX11_cost : MethodName := ⟨RX11, "cost", "(I)I"⟩
abbrev cX11_spell : ByteArray := prog_1_method_32_code
def yX11_spell : MethodName := ⟨RX11, "spell", "()I"⟩
abbrev cX11_paper : ByteArray := prog_1_method_33_code
def yX11_paper : MethodName := ⟨RX11, "paper", "(I)I"⟩
abbrev cX11_replay : ByteArray := prog_1_method_34_code
def yX11_replay : MethodName := ⟨RX11, "replay", "(I)I"⟩
abbrev cX11_byHand : ByteArray := prog_1_method_35_code
def yX11_byHand : MethodName := ⟨RX11, "byHand", "(I)I"⟩
abbrev cX11_answerRequests : ByteArray := prog_1_method_36_code
def yX11_answerRequests : MethodName := ⟨RX11, "answerRequests", "(II)I"⟩
abbrev cX11_drawn : ByteArray := prog_1_method_37_code
def yX11_drawn : MethodName := ⟨RX11, "drawn", "(IIII)I"⟩
abbrev cX11_seed : ByteArray := prog_1_method_38_code
def yX11_seed : MethodName := ⟨RX11, "seed", "(I)I"⟩
abbrev cX11_tray : ByteArray := prog_1_method_39_code
def yX11_tray : MethodName := ⟨RX11, "tray", "(III)I"⟩
abbrev cX11_lays : ByteArray := prog_1_method_40_code
def yX11_lays : MethodName := ⟨RX11, "lays", "(III)I"⟩
abbrev cX11_laid : ByteArray := prog_1_method_41_code
def yX11_laid : MethodName := ⟨RX11, "laid", "(II)I"⟩
abbrev cX11_like : ByteArray := prog_1_method_42_code
def yX11_like : MethodName := ⟨RX11, "like", "(II)I"⟩
abbrev cX11_list : ByteArray := prog_1_method_43_code
def yX11_list : MethodName := ⟨RX11, "list", "(II)I"⟩
abbrev cX11_set : ByteArray := prog_1_method_44_code
def yX11_set : MethodName := ⟨RX11, "set", "(IIJ)I"⟩
abbrev cX11_get : ByteArray := prog_1_method_45_code
def yX11_get : MethodName := ⟨RX11, "get", "(II)J"⟩
abbrev cX11_judge : ByteArray := prog_1_method_46_code
def yX11_judge : MethodName := ⟨RX11, "judge", "(III)I"⟩
abbrev cX11_told : ByteArray := prog_1_method_47_code
def yX11_told : MethodName := ⟨RX11, "told", "(I)I"⟩
abbrev cX11_image : ByteArray := prog_1_method_48_code
def yX11_image : MethodName := ⟨RX11, "image", "()I"⟩
abbrev cX11_undo : ByteArray := prog_1_method_49_code
def yX11_undo : MethodName := ⟨RX11, "undo", "()I"⟩
abbrev cX11_within : ByteArray := prog_1_method_50_code
def yX11_within : MethodName := ⟨RX11, "within", "(II)Z"⟩
abbrev cX11_isStage : ByteArray := prog_1_method_51_code
def yX11_isStage : MethodName := ⟨RX11, "isStage", "(I)Z"⟩
abbrev cX11_phaseOf : ByteArray := prog_1_method_52_code
def yX11_phaseOf : MethodName := ⟨RX11, "phaseOf", "(I)I"⟩
def RX12 : String := "FareLimitsModel"
def TX12 : u_T := fun k => match k with
  | 0 => ("FareLimitsModel", "now", "[I", true)
  | 1 => ("FareLimitsModel", "kept", "[I", true)
  | 2 => ("FareLimitsModel", "hasImage", "Z", false)
  | 3 => ("FareLimitsModel", "taped", "I", false)
  | 4 => ("FareLimitsModel", "tape", "[I", true)
  | 5 => ("FareLimitsModel", "written", "I", false)
  | 6 => ("FareLimitsModel", "paper", "[I", true)
  | 7 => ("FareLimitsModel", "trayKind", "[I", true)
  | 8 => ("FareLimitsModel", "traySize", "[I", true)
  | 9 => ("FareLimitsModel", "laid", "[I", true)
  | 10 => ("FareLimitsModel", "listSize", "[I", true)
  | 11 => ("FareLimitsModel", "items", "[J", true)
  | 12 => ("FareLimitsModel", "worths", "[D", true)
  | 13 => ("FareLimitsModel", "chances", "[D", true)
  | 14 => ("FareLimitsModel", "fewer", "[D", true)
  | 15 => ("FareLimitsModel", "isOver", "Z", false)
  | 16 => ("FareLimitsModel", "grosses", "[J", true)
  | 17 => ("FareLimitsModel", "isGreat", "[Z", true)
  | 18 => ("FareLimitsModel", "sets", "[J", true)
  | 19 => ("FareLimitsModel", "had", "[I", true)
  | 20 => ("FareLimitsModel", "left", "I", false)
  | 21 => ("FareLimitsModel", "prices", "I", false)
  | 22 => ("FareLimitsModel", "askers", "I", false)
  | 23 => ("FareLimitsModel", "isGone", "[Z", true)
  | 24 => ("FareLimitsModel", "at", "I", false)
  | 25 => ("FareLimitsModel", "fault", "I", false)
  | 26 => ("FareLimitsModel", "read", "[I", true)
  | 27 => ("FareLimitsModel", "ahead", "[I", true)
  | _ => ("FareLimitsModel", "asked", "I", false)
def tyX12 : Nat → FieldType := fun k => match k with
  | 0 => .array .int
  | 1 => .array .int
  | 2 => .boolean
  | 3 => .int
  | 4 => .array .int
  | 5 => .int
  | 6 => .array .int
  | 7 => .array .int
  | 8 => .array .int
  | 9 => .array .int
  | 10 => .array .int
  | 11 => .array .long
  | 12 => .array .double
  | 13 => .array .double
  | 14 => .array .double
  | 15 => .boolean
  | 16 => .array .long
  | 17 => .array .boolean
  | 18 => .array .long
  | 19 => .array .int
  | 20 => .int
  | 21 => .int
  | 22 => .int
  | 23 => .array .boolean
  | 24 => .int
  | 25 => .int
  | 26 => .array .int
  | 27 => .array .int
  | _ => .int
abbrev wsX120 : List Cond := u_ws RX12 TX12 29
theorem nmX12 : ∀ a, a < 29 → ∀ b, b < 29 → a ≠ b → (TX12 a).2.1 ≠ (TX12 b).2.1 := by decide +kernel
theorem tyX12_ok : ∀ k, k < 29 → parseFieldDescriptor (TX12 k).2.2.1 = some (tyX12 k) := by decide +kernel
abbrev cX12_init : ByteArray := prog_14_method_1_code
def yX12_init : MethodName := ⟨RX12, "<init>", "()V"⟩
abbrev cX12_in : ByteArray := prog_14_method_2_code
def yX12_in : MethodName := ⟨RX12, "in", "(JJJ)Z"⟩
abbrev cX12_isFare : ByteArray := prog_14_method_3_code
def yX12_isFare : MethodName := ⟨RX12, "isFare", "(I)Z"⟩
abbrev cX12_isStage : ByteArray := prog_14_method_4_code
def yX12_isStage : MethodName := ⟨RX12, "isStage", "(I)Z"⟩
abbrev cX12_isSeat : ByteArray := prog_14_method_5_code
def yX12_isSeat : MethodName := ⟨RX12, "isSeat", "(I)Z"⟩
abbrev cX12_price : ByteArray := prog_14_method_6_code
def yX12_price : MethodName := ⟨RX12, "price", "(I)I"⟩
abbrev cX12_odds : ByteArray := prog_14_method_7_code
def yX12_odds : MethodName := ⟨RX12, "odds", "(II)I"⟩
abbrev cX12_fare : ByteArray := prog_14_method_8_code
def yX12_fare : MethodName := ⟨RX12, "fare", "(II)I"⟩
abbrev cX12_of : ByteArray := prog_14_method_9_code
def yX12_of : MethodName := ⟨RX12, "of", "(II)I"⟩
abbrev cX12_odds_ : ByteArray := prog_14_method_10_code
def yX12_odds_ : MethodName := ⟨RX12, "odds", "(III)I"⟩
abbrev cX12_drop : ByteArray := prog_14_method_11_code
def yX12_drop : MethodName := ⟨RX12, "drop", "()I"⟩
abbrev cX12_rule : ByteArray := prog_14_method_12_code
def yX12_rule : MethodName := ⟨RX12, "rule", "(II)I"⟩
abbrev cX12_showing : ByteArray := prog_14_method_13_code
def yX12_showing : MethodName := ⟨RX12, "showing", "(I)D"⟩
abbrev cX12_keeps : ByteArray := prog_14_method_14_code
def yX12_keeps : MethodName := ⟨RX12, "keeps", "(I)D"⟩
abbrev cX12_netOf : ByteArray := prog_14_method_15_code
def yX12_netOf : MethodName := ⟨RX12, "netOf", "(II)D"⟩
abbrev cX12_shows : ByteArray := prog_14_method_16_code
def yX12_shows : MethodName := ⟨RX12, "shows", "(I)J"⟩
abbrev cX12_net : ByteArray := prog_14_method_17_code
def yX12_net : MethodName := ⟨RX12, "net", "(II)J"⟩
abbrev cX12_netCut : ByteArray := prog_14_method_18_code
def yX12_netCut : MethodName := ⟨RX12, "netCut", "(II)I"⟩
abbrev cX12_worthOf : ByteArray := prog_14_method_19_code
def yX12_worthOf : MethodName := ⟨RX12, "worthOf", "(II)D"⟩
abbrev cX12_gain : ByteArray := prog_14_method_20_code
def yX12_gain : MethodName := ⟨RX12, "gain", "(III)D"⟩
abbrev cX12_reckons : ByteArray := prog_14_method_21_code
def yX12_reckons : MethodName := ⟨RX12, "reckons", "(I)V"⟩
abbrev cX12_worth : ByteArray := prog_14_method_22_code
def yX12_worth : MethodName := ⟨RX12, "worth", "(II)J"⟩
abbrev cX12_worthShort : ByteArray := prog_14_method_23_code
def yX12_worthShort : MethodName := ⟨RX12, "worthShort", "(II)I"⟩
abbrev cX12_times : ByteArray := prog_14_method_24_code
def yX12_times : MethodName := ⟨RX12, "times", "(JJ)J"⟩
abbrev cX12_plus : ByteArray := prog_14_method_25_code
def yX12_plus : MethodName := ⟨RX12, "plus", "(JJ)J"⟩
abbrev cX12_power : ByteArray := prog_14_method_26_code
def yX12_power : MethodName := ⟨RX12, "power", "(II)J"⟩
abbrev cX12_next : ByteArray := prog_14_method_27_code
def yX12_next : MethodName := ⟨RX12, "next", "(II)J"⟩
abbrev cX12_gross : ByteArray := prog_14_method_28_code
def yX12_gross : MethodName := ⟨RX12, "gross", "(II)J"⟩
abbrev cX12_isTaken : ByteArray := prog_14_method_29_code
def yX12_isTaken : MethodName := ⟨RX12, "isTaken", "(III)Z"⟩
abbrev cX12_isToGo : ByteArray := prog_14_method_30_code
def yX12_isToGo : MethodName := ⟨RX12, "isToGo", "(I)Z"⟩
abbrev cX12_taken : ByteArray := prog_14_method_31_code
def yX12_taken : MethodName := ⟨RX12, "taken", "(III)I"⟩
abbrev cX12_kept : ByteArray := prog_14_method_32_code
def yX12_kept : MethodName := ⟨RX12, "kept", "(II)I"⟩
abbrev cX12_limit : ByteArray := prog_14_method_33_code
def yX12_limit : MethodName := ⟨RX12, "limit", "(II)I"⟩
abbrev cX12_isBooked : ByteArray := prog_14_method_34_code
def yX12_isBooked : MethodName := ⟨RX12, "isBooked", "(I)Z"⟩
abbrev cX12_chances : ByteArray := prog_14_method_35_code
def yX12_chances : MethodName := ⟨RX12, "chances", "(II)V"⟩
abbrev cX12_chance : ByteArray := prog_14_method_36_code
def yX12_chance : MethodName := ⟨RX12, "chance", "(III)J"⟩
abbrev cX12_turnedOf : ByteArray := prog_14_method_37_code
def yX12_turnedOf : MethodName := ⟨RX12, "turnedOf", "(I)D"⟩
abbrev cX12_hadOf : ByteArray := prog_14_method_38_code
def yX12_hadOf : MethodName := ⟨RX12, "hadOf", "(II)D"⟩
abbrev cX12_turned : ByteArray := prog_14_method_39_code
def yX12_turned : MethodName := ⟨RX12, "turned", "(II)J"⟩
abbrev cX12_had : ByteArray := prog_14_method_40_code
def yX12_had : MethodName := ⟨RX12, "had", "(III)J"⟩
abbrev cX12_booked : ByteArray := prog_14_method_41_code
def yX12_booked : MethodName := ⟨RX12, "booked", "(II)I"⟩
abbrev cX12_setsOf : ByteArray := prog_14_method_42_code
def yX12_setsOf : MethodName := ⟨RX12, "setsOf", "(II)J"⟩
abbrev cX12_ways : ByteArray := prog_14_method_43_code
def yX12_ways : MethodName := ⟨RX12, "ways", "(III)J"⟩
abbrev cX12_asks : ByteArray := prog_14_method_44_code
def yX12_asks : MethodName := ⟨RX12, "asks", "(II)V"⟩
abbrev cX12_demand : ByteArray := prog_14_method_45_code
def yX12_demand : MethodName := ⟨RX12, "demand", "(III)J"⟩
abbrev cX12_spill : ByteArray := prog_14_method_46_code
def yX12_spill : MethodName := ⟨RX12, "spill", "(III)J"⟩
abbrev cX12_hand : ByteArray := prog_14_method_47_code
def yX12_hand : MethodName := ⟨RX12, "hand", "(II)I"⟩
abbrev cX12_seed : ByteArray := prog_14_method_48_code
def yX12_seed : MethodName := ⟨RX12, "seed", "(I)I"⟩
abbrev cX12_opens : ByteArray := prog_14_method_49_code
def yX12_opens : MethodName := ⟨RX12, "opens", "()V"⟩
abbrev cX12_isByHand : ByteArray := prog_14_method_50_code
def yX12_isByHand : MethodName := ⟨RX12, "isByHand", "(I)Z"⟩
abbrev cX12_has : ByteArray := prog_14_method_51_code
def yX12_has : MethodName := ⟨RX12, "has", "(III)Z"⟩
abbrev cX12_drawnFare : ByteArray := prog_14_method_52_code
def yX12_drawnFare : MethodName := ⟨RX12, "drawnFare", "(I)I"⟩
abbrev cX12_drawn : ByteArray := prog_14_method_53_code
def yX12_drawn : MethodName := ⟨RX12, "drawn", "(IIII)I"⟩
abbrev cX12_isLeg : ByteArray := prog_14_method_54_code
def yX12_isLeg : MethodName := ⟨RX12, "isLeg", "(I)Z"⟩
abbrev cX12_leg : ByteArray := prog_14_method_55_code
def yX12_leg : MethodName := ⟨RX12, "leg", "(III)I"⟩
abbrev cX12_isRoute : ByteArray := prog_14_method_56_code
def yX12_isRoute : MethodName := ⟨RX12, "isRoute", "(I)Z"⟩
abbrev cX12_legs : ByteArray := prog_14_method_57_code
def yX12_legs : MethodName := ⟨RX12, "legs", "(I)I"⟩
abbrev cX12_isOver : ByteArray := prog_14_method_58_code
def yX12_isOver : MethodName := ⟨RX12, "isOver", "(II)Z"⟩
abbrev cX12_fee : ByteArray := prog_14_method_59_code
def yX12_fee : MethodName := ⟨RX12, "fee", "(I)I"⟩
abbrev cX12_wanted : ByteArray := prog_14_method_60_code
def yX12_wanted : MethodName := ⟨RX12, "wanted", "(I)I"⟩
abbrev cX12_partOf : ByteArray := prog_14_method_61_code
def yX12_partOf : MethodName := ⟨RX12, "partOf", "(II)F"⟩
abbrev cX12_costOf : ByteArray := prog_14_method_62_code
def yX12_costOf : MethodName := ⟨RX12, "costOf", "(I)F"⟩
abbrev cX12_isIn : ByteArray := prog_14_method_63_code
def yX12_isIn : MethodName := ⟨RX12, "isIn", "(I)Z"⟩
abbrev cX12_part : ByteArray := prog_14_method_64_code
def yX12_part : MethodName := ⟨RX12, "part", "(II)I"⟩
abbrev cX12_cost : ByteArray := prog_14_method_65_code
def yX12_cost : MethodName := ⟨RX12, "cost", "(I)I"⟩
abbrev cX12_letters : ByteArray := prog_14_method_66_code
def yX12_letters : MethodName := ⟨RX12, "letters", "(I)I"⟩
abbrev cX12_route : ByteArray := prog_14_method_67_code
def yX12_route : MethodName := ⟨RX12, "route", "(II)I"⟩
abbrev cX12_feed : ByteArray := prog_14_method_68_code
def yX12_feed : MethodName := ⟨RX12, "feed", "(I)I"⟩
abbrev cX12_clear : ByteArray := prog_14_method_69_code
def yX12_clear : MethodName := ⟨RX12, "clear", "()I"⟩
abbrev cX12_wrong : ByteArray := prog_14_method_70_code
def yX12_wrong : MethodName := ⟨RX12, "wrong", "(I)V"⟩
abbrev cX12_isSign : ByteArray := prog_14_method_71_code
def yX12_isSign : MethodName := ⟨RX12, "isSign", "(II)Z"⟩
abbrev cX12_takes : ByteArray := prog_14_method_72_code
def yX12_takes : MethodName := ⟨RX12, "takes", "(I)Z"⟩
abbrev cX12_number : ByteArray := prog_14_method_73_code
def yX12_number : MethodName := ⟨RX12, "number", "(II)I"⟩
abbrev cX12_by : ByteArray := prog_14_method_74_code
def yX12_by : MethodName := ⟨RX12, "by", "(I)I"⟩
abbrev cX12_name : ByteArray := prog_14_method_75_code
def yX12_name : MethodName := ⟨RX12, "name", "()V"⟩
abbrev cX12_needs : ByteArray := prog_14_method_76_code
def yX12_needs : MethodName := ⟨RX12, "needs", "(I)V"⟩
abbrev cX12_comes : ByteArray := prog_14_method_77_code
def yX12_comes : MethodName := ⟨RX12, "comes", "()V"⟩
abbrev cX12_readRoute : ByteArray := prog_14_method_78_code
def yX12_readRoute : MethodName := ⟨RX12, "readRoute", "()V"⟩
abbrev cX12_pours : ByteArray := prog_14_method_79_code
def yX12_pours : MethodName := ⟨RX12, "pours", "([I[I)V"⟩
abbrev cX12_book : ByteArray := prog_14_method_80_code
def yX12_book : MethodName := ⟨RX12, "book", "()I"⟩
abbrev cX12_ends : ByteArray := prog_14_method_81_code
def yX12_ends : MethodName := ⟨RX12, "ends", "()I"⟩
abbrev cX12_wrongSign : ByteArray := prog_14_method_82_code
def yX12_wrongSign : MethodName := ⟨RX12, "wrongSign", "()I"⟩
abbrev cX12_behind : ByteArray := prog_14_method_83_code
def yX12_behind : MethodName := ⟨RX12, "behind", "(I)I"⟩
abbrev cX12_goes : ByteArray := prog_14_method_84_code
def yX12_goes : MethodName := ⟨RX12, "goes", "(I)I"⟩
abbrev cX12_replay : ByteArray := prog_14_method_85_code
def yX12_replay : MethodName := ⟨RX12, "replay", "(I)I"⟩
abbrev cX12_byHand : ByteArray := prog_14_method_86_code
def yX12_byHand : MethodName := ⟨RX12, "byHand", "(I)I"⟩
abbrev cX12_writes : ByteArray := prog_14_method_87_code
def yX12_writes : MethodName := ⟨RX12, "writes", "(I)V"⟩
abbrev cX12_writesNumber : ByteArray := prog_14_method_88_code
def yX12_writesNumber : MethodName := ⟨RX12, "writesNumber", "(I)V"⟩
abbrev cX12_spell : ByteArray := prog_14_method_89_code
def yX12_spell : MethodName := ⟨RX12, "spell", "()I"⟩
abbrev cX12_paper : ByteArray := prog_14_method_90_code
def yX12_paper : MethodName := ⟨RX12, "paper", "(I)I"⟩
abbrev cX12_unlike : ByteArray := prog_14_method_91_code
def yX12_unlike : MethodName := ⟨RX12, "unlike", "()I"⟩
abbrev cX12_greatest : ByteArray := prog_14_method_92_code
def yX12_greatest : MethodName := ⟨RX12, "greatest", "()I"⟩
abbrev cX12_told : ByteArray := prog_14_method_93_code
def yX12_told : MethodName := ⟨RX12, "told", "(I)I"⟩
abbrev cX12_isTray : ByteArray := prog_14_method_94_code
def yX12_isTray : MethodName := ⟨RX12, "isTray", "(I)Z"⟩
abbrev cX12_isUnder : ByteArray := prog_14_method_95_code
def yX12_isUnder : MethodName := ⟨RX12, "isUnder", "(II)Z"⟩
abbrev cX12_tray : ByteArray := prog_14_method_96_code
def yX12_tray : MethodName := ⟨RX12, "tray", "(III)I"⟩
abbrev cX12_whyNot : ByteArray := prog_14_method_97_code
def yX12_whyNot : MethodName := ⟨RX12, "whyNot", "(II)I"⟩
abbrev cX12_lays : ByteArray := prog_14_method_98_code
def yX12_lays : MethodName := ⟨RX12, "lays", "(III)I"⟩
abbrev cX12_laid : ByteArray := prog_14_method_99_code
def yX12_laid : MethodName := ⟨RX12, "laid", "(II)I"⟩
abbrev cX12_like : ByteArray := prog_14_method_100_code
def yX12_like : MethodName := ⟨RX12, "like", "(II)I"⟩
abbrev cX12_list : ByteArray := prog_14_method_101_code
def yX12_list : MethodName := ⟨RX12, "list", "(II)I"⟩
abbrev cX12_set : ByteArray := prog_14_method_102_code
def yX12_set : MethodName := ⟨RX12, "set", "(IIJ)I"⟩
abbrev cX12_get : ByteArray := prog_14_method_103_code
def yX12_get : MethodName := ⟨RX12, "get", "(II)J"⟩
abbrev cX12_judge : ByteArray := prog_14_method_104_code
def yX12_judge : MethodName := ⟨RX12, "judge", "(III)I"⟩
abbrev cX12_image : ByteArray := prog_14_method_105_code
def yX12_image : MethodName := ⟨RX12, "image", "()I"⟩
abbrev cX12_undo : ByteArray := prog_14_method_106_code
def yX12_undo : MethodName := ⟨RX12, "undo", "()I"⟩
def RJx145de : String := "java/io/Serializable"
def TJx145de : u_T := fun k => match k with
  | _ => ("", "", "", false)
def tyJx145de : Nat → FieldType := fun k => match k with
  | _ => .int
abbrev wsJx145de0 : List Cond := u_ws RJx145de TJx145de 0
theorem nmJx145de : ∀ a, a < 0 → ∀ b, b < 0 → a ≠ b → (TJx145de a).2.1 ≠ (TJx145de b).2.1 := by decide +kernel
theorem tyJx145de_ok : ∀ k, k < 0 → parseFieldDescriptor (TJx145de k).2.2.1 = some (tyJx145de k) := by decide +kernel
def RJ5 : String := "java/lang/AbstractStringBuilder"
def TJ5 : u_T := fun k => match k with
  | _ => ("", "", "", false)
def tyJ5 : Nat → FieldType := fun k => match k with
  | _ => .int
abbrev wsJ50 : List Cond := u_ws RJ5 TJ5 0
theorem nmJ5 : ∀ a, a < 0 → ∀ b, b < 0 → a ≠ b → (TJ5 a).2.1 ≠ (TJ5 b).2.1 := by decide +kernel
theorem tyJ5_ok : ∀ k, k < 0 → parseFieldDescriptor (TJ5 k).2.2.1 = some (tyJ5 k) := by decide +kernel
abbrev cJ5_init_d00df : ByteArray := prog_15_method_2_code
def yJ5_init_d00df : MethodName := ⟨RJ5, "<init>", "(I)V"⟩
abbrev cJ5_length_8abf5 : ByteArray := prog_15_method_6_code
def yJ5_length_8abf5 : MethodName := ⟨RJ5, "length", "()I"⟩
abbrev cJ5_ensureCapacityInternal_d00df : ByteArray := prog_15_method_9_code
def yJ5_ensureCapacityInternal_d00df : MethodName := ⟨RJ5, "ensureCapacityInternal", "(I)V"⟩
abbrev cJ5_newCapacity_0f7a4 : ByteArray := prog_15_method_10_code
def yJ5_newCapacity_0f7a4 : MethodName := ⟨RJ5, "newCapacity", "(I)I"⟩
abbrev cJ5_inflate_da8c8 : ByteArray := prog_15_method_11_code
def yJ5_inflate_da8c8 : MethodName := ⟨RJ5, "inflate", "()V"⟩
abbrev cJ5_setLength_d00df : ByteArray := prog_15_method_13_code
def yJ5_setLength_d00df : MethodName := ⟨RJ5, "setLength", "(I)V"⟩
abbrev cJ5_charAt_5068e : ByteArray := prog_15_method_14_code
def yJ5_charAt_5068e : MethodName := ⟨RJ5, "charAt", "(I)C"⟩
abbrev cJ5_append_3fe6f : ByteArray := prog_15_method_31_code
def yJ5_append_3fe6f : MethodName := ⟨RJ5, "append", "(C)Ljava/lang/AbstractStringBuilder;"⟩
abbrev cJ5_append_c97b9 : ByteArray := prog_15_method_32_code
def yJ5_append_c97b9 : MethodName := ⟨RJ5, "append", "(I)Ljava/lang/AbstractStringBuilder;"⟩
abbrev cJ5_isLatin1_aae02 : ByteArray := prog_15_method_68_code
def yJ5_isLatin1_aae02 : MethodName := ⟨RJ5, "isLatin1", "()Z"⟩
def RJx2cfe8 : String := "java/lang/Appendable"
def TJx2cfe8 : u_T := fun k => match k with
  | _ => ("", "", "", false)
def tyJx2cfe8 : Nat → FieldType := fun k => match k with
  | _ => .int
abbrev wsJx2cfe80 : List Cond := u_ws RJx2cfe8 TJx2cfe8 0
theorem nmJx2cfe8 : ∀ a, a < 0 → ∀ b, b < 0 → a ≠ b → (TJx2cfe8 a).2.1 ≠ (TJx2cfe8 b).2.1 := by decide +kernel
theorem tyJx2cfe8_ok : ∀ k, k < 0 → parseFieldDescriptor (TJx2cfe8 k).2.2.1 = some (tyJx2cfe8 k) := by decide +kernel
def RJx9f9b0 : String := "java/lang/CharSequence"
def TJx9f9b0 : u_T := fun k => match k with
  | _ => ("", "", "", false)
def tyJx9f9b0 : Nat → FieldType := fun k => match k with
  | _ => .int
abbrev wsJx9f9b00 : List Cond := u_ws RJx9f9b0 TJx9f9b0 0
theorem nmJx9f9b0 : ∀ a, a < 0 → ∀ b, b < 0 → a ≠ b → (TJx9f9b0 a).2.1 ≠ (TJx9f9b0 b).2.1 := by decide +kernel
theorem tyJx9f9b0_ok : ∀ k, k < 0 → parseFieldDescriptor (TJx9f9b0 k).2.2.1 = some (tyJx9f9b0 k) := by decide +kernel
def RJx8e188 : String := "java/lang/Cloneable"
def TJx8e188 : u_T := fun k => match k with
  | _ => ("", "", "", false)
def tyJx8e188 : Nat → FieldType := fun k => match k with
  | _ => .int
abbrev wsJx8e1880 : List Cond := u_ws RJx8e188 TJx8e188 0
theorem nmJx8e188 : ∀ a, a < 0 → ∀ b, b < 0 → a ≠ b → (TJx8e188 a).2.1 ≠ (TJx8e188 b).2.1 := by decide +kernel
theorem tyJx8e188_ok : ∀ k, k < 0 → parseFieldDescriptor (TJx8e188 k).2.2.1 = some (tyJx8e188 k) := by decide +kernel
def RJxb160c : String := "java/lang/Comparable"
def TJxb160c : u_T := fun k => match k with
  | _ => ("", "", "", false)
def tyJxb160c : Nat → FieldType := fun k => match k with
  | _ => .int
abbrev wsJxb160c0 : List Cond := u_ws RJxb160c TJxb160c 0
theorem nmJxb160c : ∀ a, a < 0 → ∀ b, b < 0 → a ≠ b → (TJxb160c a).2.1 ≠ (TJxb160c b).2.1 := by decide +kernel
theorem tyJxb160c_ok : ∀ k, k < 0 → parseFieldDescriptor (TJxb160c k).2.2.1 = some (tyJxb160c k) := by decide +kernel
def RJxe99ae : String := "java/lang/Double"
def TJxe99ae : u_T := fun k => match k with
  | _ => ("", "", "", false)
def tyJxe99ae : Nat → FieldType := fun k => match k with
  | _ => .int
abbrev wsJxe99ae0 : List Cond := u_ws RJxe99ae TJxe99ae 0
theorem nmJxe99ae : ∀ a, a < 0 → ∀ b, b < 0 → a ≠ b → (TJxe99ae a).2.1 ≠ (TJxe99ae b).2.1 := by decide +kernel
theorem tyJxe99ae_ok : ∀ k, k < 0 → parseFieldDescriptor (TJxe99ae k).2.2.1 = some (tyJxe99ae k) := by decide +kernel
abbrev cJxe99ae_isNaN_b9ae7 : ByteArray := prog_17_method_6_code
def yJxe99ae_isNaN_b9ae7 : MethodName := ⟨RJxe99ae, "isNaN", "(D)Z"⟩
abbrev cJxe99ae_doubleToLongBits_ccdee : ByteArray := prog_17_method_23_code
def yJxe99ae_doubleToLongBits_ccdee : MethodName := ⟨RJxe99ae, "doubleToLongBits", "(D)J"⟩
def RJx29ce0 : String := "java/lang/Enum"
def TJx29ce0 : u_T := fun k => match k with
  | _ => ("", "", "", false)
def tyJx29ce0 : Nat → FieldType := fun k => match k with
  | _ => .int
abbrev wsJx29ce00 : List Cond := u_ws RJx29ce0 TJx29ce0 0
theorem nmJx29ce0 : ∀ a, a < 0 → ∀ b, b < 0 → a ≠ b → (TJx29ce0 a).2.1 ≠ (TJx29ce0 b).2.1 := by decide +kernel
theorem tyJx29ce0_ok : ∀ k, k < 0 → parseFieldDescriptor (TJx29ce0 k).2.2.1 = some (tyJx29ce0 k) := by decide +kernel
def RJxf58ca : String := "java/lang/Float"
def TJxf58ca : u_T := fun k => match k with
  | _ => ("", "", "", false)
def tyJxf58ca : Nat → FieldType := fun k => match k with
  | _ => .int
abbrev wsJxf58ca0 : List Cond := u_ws RJxf58ca TJxf58ca 0
theorem nmJxf58ca : ∀ a, a < 0 → ∀ b, b < 0 → a ≠ b → (TJxf58ca a).2.1 ≠ (TJxf58ca b).2.1 := by decide +kernel
theorem tyJxf58ca_ok : ∀ k, k < 0 → parseFieldDescriptor (TJxf58ca k).2.2.1 = some (tyJxf58ca k) := by decide +kernel
abbrev cJxf58ca_isNaN_12338 : ByteArray := prog_19_method_6_code
def yJxf58ca_isNaN_12338 : MethodName := ⟨RJxf58ca, "isNaN", "(F)Z"⟩
abbrev cJxf58ca_floatToIntBits_5c35a : ByteArray := prog_19_method_24_code
def yJxf58ca_floatToIntBits_5c35a : MethodName := ⟨RJxf58ca, "floatToIntBits", "(F)I"⟩
def RJ6 : String := "java/lang/Integer"
def TJ6 : u_T := fun k => match k with
  | _ => ("", "", "", false)
def tyJ6 : Nat → FieldType := fun k => match k with
  | _ => .int
abbrev wsJ60 : List Cond := u_ws RJ6 TJ6 0
theorem nmJ6 : ∀ a, a < 0 → ∀ b, b < 0 → a ≠ b → (TJ6 a).2.1 ≠ (TJ6 b).2.1 := by decide +kernel
theorem tyJ6_ok : ∀ k, k < 0 → parseFieldDescriptor (TJ6 k).2.2.1 = some (tyJ6 k) := by decide +kernel
abbrev cJ6_getChars_ba4f3 : ByteArray := prog_20_method_12_code
def yJ6_getChars_ba4f3 : MethodName := ⟨RJ6, "getChars", "(II[B)I"⟩
abbrev cJ6_stringSize_0f7a4 : ByteArray := prog_20_method_13_code
def yJ6_stringSize_0f7a4 : MethodName := ⟨RJ6, "stringSize", "(I)I"⟩
def RJ9 : String := "java/lang/Math"
def TJ9 : u_T := fun k => match k with
  | _ => ("", "", "", false)
def tyJ9 : Nat → FieldType := fun k => match k with
  | _ => .int
abbrev wsJ90 : List Cond := u_ws RJ9 TJ9 0
theorem nmJ9 : ∀ a, a < 0 → ∀ b, b < 0 → a ≠ b → (TJ9 a).2.1 ≠ (TJ9 b).2.1 := by decide +kernel
theorem tyJ9_ok : ∀ k, k < 0 → parseFieldDescriptor (TJ9 k).2.2.1 = some (tyJ9 k) := by decide +kernel
abbrev cJ9_max_7cf53 : ByteArray := prog_21_method_65_code
def yJ9_max_7cf53 : MethodName := ⟨RJ9, "max", "(II)I"⟩
abbrev cJ9_min_7cf53 : ByteArray := prog_21_method_69_code
def yJ9_min_7cf53 : MethodName := ⟨RJ9, "min", "(II)I"⟩
def RJxd2413 : String := "java/lang/Number"
def TJxd2413 : u_T := fun k => match k with
  | _ => ("", "", "", false)
def tyJxd2413 : Nat → FieldType := fun k => match k with
  | _ => .int
abbrev wsJxd24130 : List Cond := u_ws RJxd2413 TJxd2413 0
theorem nmJxd2413 : ∀ a, a < 0 → ∀ b, b < 0 → a ≠ b → (TJxd2413 a).2.1 ≠ (TJxd2413 b).2.1 := by decide +kernel
theorem tyJxd2413_ok : ∀ k, k < 0 → parseFieldDescriptor (TJxd2413 k).2.2.1 = some (tyJxd2413 k) := by decide +kernel
def RJ0 : String := "java/lang/String"
def TJ0 : u_T := fun k => match k with
  | _ => ("", "", "", false)
def tyJ0 : Nat → FieldType := fun k => match k with
  | _ => .int
abbrev wsJ00 : List Cond := u_ws RJ0 TJ0 0
theorem nmJ0 : ∀ a, a < 0 → ∀ b, b < 0 → a ≠ b → (TJ0 a).2.1 ≠ (TJ0 b).2.1 := by decide +kernel
theorem tyJ0_ok : ∀ k, k < 0 → parseFieldDescriptor (TJ0 k).2.2.1 = some (tyJ0 k) := by decide +kernel
abbrev cJ0_checkIndex_df160 : ByteArray := prog_23_method_155_code
def yJ0_checkIndex_df160 : MethodName := ⟨RJ0, "checkIndex", "(II)V"⟩
abbrev cJ0_checkBoundsOffCount_cabcc : ByteArray := prog_23_method_157_code
def yJ0_checkBoundsOffCount_cabcc : MethodName := ⟨RJ0, "checkBoundsOffCount", "(III)I"⟩
abbrev cJ0_checkBoundsBeginEnd_23922 : ByteArray := prog_23_method_158_code
def yJ0_checkBoundsBeginEnd_23922 : MethodName := ⟨RJ0, "checkBoundsBeginEnd", "(III)V"⟩
def RJ4 : String := "java/lang/StringBuilder"
def TJ4 : u_T := fun k => match k with
  | 0 => ("java/lang/AbstractStringBuilder", "value", "[B", false)
  | 1 => ("java/lang/AbstractStringBuilder", "coder", "B", false)
  | 2 => ("java/lang/AbstractStringBuilder", "maybeLatin1", "Z", false)
  | _ => ("java/lang/AbstractStringBuilder", "count", "I", false)
def tyJ4 : Nat → FieldType := fun k => match k with
  | 0 => .array .byte
  | 1 => .byte
  | 2 => .boolean
  | _ => .int
abbrev wsJ40 : List Cond := u_ws RJ4 TJ4 4
theorem nmJ4 : ∀ a, a < 4 → ∀ b, b < 4 → a ≠ b → (TJ4 a).2.1 ≠ (TJ4 b).2.1 := by decide +kernel
theorem tyJ4_ok : ∀ k, k < 4 → parseFieldDescriptor (TJ4 k).2.2.1 = some (tyJ4 k) := by decide +kernel
abbrev cJ4_init_da8c8 : ByteArray := prog_24_method_1_code
def yJ4_init_da8c8 : MethodName := ⟨RJ4, "<init>", "()V"⟩
abbrev cJ4_append_cf468 : ByteArray := prog_24_method_14_code
def yJ4_append_cf468 : MethodName := ⟨RJ4, "append", "(C)Ljava/lang/StringBuilder;"⟩
abbrev cJ4_append_bf812 : ByteArray := prog_24_method_15_code
def yJ4_append_bf812 : MethodName := ⟨RJ4, "append", "(I)Ljava/lang/StringBuilder;"⟩
abbrev cJ4_charAt_5068e : ByteArray := prog_24_method_88_code
def yJ4_charAt_5068e : MethodName := ⟨RJ4, "charAt", "(I)C"⟩
abbrev cJ4_setLength_d00df : ByteArray := prog_24_method_89_code
def yJ4_setLength_d00df : MethodName := ⟨RJ4, "setLength", "(I)V"⟩
abbrev cJ4_length_8abf5 : ByteArray := prog_24_method_93_code
def yJ4_length_8abf5 : MethodName := ⟨RJ4, "length", "()I"⟩
def RJ1 : String := "java/lang/StringLatin1"
def TJ1 : u_T := fun k => match k with
  | _ => ("", "", "", false)
def tyJ1 : Nat → FieldType := fun k => match k with
  | _ => .int
abbrev wsJ10 : List Cond := u_ws RJ1 TJ1 0
theorem nmJ1 : ∀ a, a < 0 → ∀ b, b < 0 → a ≠ b → (TJ1 a).2.1 ≠ (TJ1 b).2.1 := by decide +kernel
theorem tyJ1_ok : ∀ k, k < 0 → parseFieldDescriptor (TJ1 k).2.2.1 = some (tyJ1 k) := by decide +kernel
abbrev cJ1_canEncode_fc78d : ByteArray := prog_25_method_3_code
def yJ1_canEncode_fc78d : MethodName := ⟨RJ1, "canEncode", "(C)Z"⟩
abbrev cJ1_fillNull_b72d1 : ByteArray := prog_25_method_48_code
def yJ1_fillNull_b72d1 : MethodName := ⟨RJ1, "fillNull", "([BII)V"⟩
abbrev cJ1_inflate_0e8fd : ByteArray := prog_25_method_50_code
def yJ1_inflate_0e8fd : MethodName := ⟨RJ1, "inflate", "([BI[BII)V"⟩
def RJ2 : String := "java/lang/StringUTF16"
def TJ2 : u_T := fun k => match k with
  | _ => ("", "", "", false)
def tyJ2 : Nat → FieldType := fun k => match k with
  | _ => .int
abbrev wsJ20 : List Cond := u_ws RJ2 TJ2 0
theorem nmJ2 : ∀ a, a < 0 → ∀ b, b < 0 → a ≠ b → (TJ2 a).2.1 ≠ (TJ2 b).2.1 := by decide +kernel
theorem tyJ2_ok : ∀ k, k < 0 → parseFieldDescriptor (TJ2 k).2.2.1 = some (tyJ2 k) := by decide +kernel
abbrev cJ2_newBytesFor_77867 : ByteArray := prog_26_method_2_code
def yJ2_newBytesFor_77867 : MethodName := ⟨RJ2, "newBytesFor", "(I)[B"⟩
abbrev cJ2_newBytesLength_0f7a4 : ByteArray := prog_26_method_3_code
def yJ2_newBytesLength_0f7a4 : MethodName := ⟨RJ2, "newBytesLength", "(I)I"⟩
abbrev cJ2_putChar_b72d1 : ByteArray := prog_26_method_4_code
def yJ2_putChar_b72d1 : MethodName := ⟨RJ2, "putChar", "([BII)V"⟩
abbrev cJ2_getChar_3b067 : ByteArray := prog_26_method_5_code
def yJ2_getChar_3b067 : MethodName := ⟨RJ2, "getChar", "([BI)C"⟩
abbrev cJ2_length_9d52b : ByteArray := prog_26_method_6_code
def yJ2_length_9d52b : MethodName := ⟨RJ2, "length", "([B)I"⟩
abbrev cJ2_fillNull_b72d1 : ByteArray := prog_26_method_70_code
def yJ2_fillNull_b72d1 : MethodName := ⟨RJ2, "fillNull", "([BII)V"⟩
abbrev cJ2_putCharSB_b72d1 : ByteArray := prog_26_method_71_code
def yJ2_putCharSB_b72d1 : MethodName := ⟨RJ2, "putCharSB", "([BII)V"⟩
abbrev cJ2_getChars_46870 : ByteArray := prog_26_method_77_code
def yJ2_getChars_46870 : MethodName := ⟨RJ2, "getChars", "(III[B)I"⟩
abbrev cJ2_inflate_0e8fd : ByteArray := prog_26_method_86_code
def yJ2_inflate_0e8fd : MethodName := ⟨RJ2, "inflate", "([BI[BII)V"⟩
abbrev cJ2_getChars_ba4f3 : ByteArray := prog_26_method_89_code
def yJ2_getChars_ba4f3 : MethodName := ⟨RJ2, "getChars", "(II[B)I"⟩
abbrev cJ2_checkIndex_2214a : ByteArray := prog_26_method_91_code
def yJ2_checkIndex_2214a : MethodName := ⟨RJ2, "checkIndex", "(I[B)V"⟩
abbrev cJ2_checkBoundsBeginEnd_d044e : ByteArray := prog_26_method_93_code
def yJ2_checkBoundsBeginEnd_d044e : MethodName := ⟨RJ2, "checkBoundsBeginEnd", "(II[B)V"⟩
abbrev cJ2_checkBoundsOffCount_d044e : ByteArray := prog_26_method_94_code
def yJ2_checkBoundsOffCount_d044e : MethodName := ⟨RJ2, "checkBoundsOffCount", "(II[B)V"⟩
def RJ10 : String := "java/lang/System"
def TJ10 : u_T := fun k => match k with
  | _ => ("", "", "", false)
def tyJ10 : Nat → FieldType := fun k => match k with
  | _ => .int
abbrev wsJ100 : List Cond := u_ws RJ10 TJ10 0
theorem nmJ10 : ∀ a, a < 0 → ∀ b, b < 0 → a ≠ b → (TJ10 a).2.1 ≠ (TJ10 b).2.1 := by decide +kernel
theorem tyJ10_ok : ∀ k, k < 0 → parseFieldDescriptor (TJ10 k).2.2.1 = some (tyJ10 k) := by decide +kernel
def RJxfd54e : String := "java/lang/constant/Constable"
def TJxfd54e : u_T := fun k => match k with
  | _ => ("", "", "", false)
def tyJxfd54e : Nat → FieldType := fun k => match k with
  | _ => .int
abbrev wsJxfd54e0 : List Cond := u_ws RJxfd54e TJxfd54e 0
theorem nmJxfd54e : ∀ a, a < 0 → ∀ b, b < 0 → a ≠ b → (TJxfd54e a).2.1 ≠ (TJxfd54e b).2.1 := by decide +kernel
theorem tyJxfd54e_ok : ∀ k, k < 0 → parseFieldDescriptor (TJxfd54e k).2.2.1 = some (tyJxfd54e k) := by decide +kernel
def RJx3cf43 : String := "java/lang/constant/ConstantDesc"
def TJx3cf43 : u_T := fun k => match k with
  | _ => ("", "", "", false)
def tyJx3cf43 : Nat → FieldType := fun k => match k with
  | _ => .int
abbrev wsJx3cf430 : List Cond := u_ws RJx3cf43 TJx3cf43 0
theorem nmJx3cf43 : ∀ a, a < 0 → ∀ b, b < 0 → a ≠ b → (TJx3cf43 a).2.1 ≠ (TJx3cf43 b).2.1 := by decide +kernel
theorem tyJx3cf43_ok : ∀ k, k < 0 → parseFieldDescriptor (TJx3cf43 k).2.2.1 = some (tyJx3cf43 k) := by decide +kernel
def RJ7 : String := "java/util/Arrays"
def TJ7 : u_T := fun k => match k with
  | _ => ("", "", "", false)
def tyJ7 : Nat → FieldType := fun k => match k with
  | _ => .int
abbrev wsJ70 : List Cond := u_ws RJ7 TJ7 0
theorem nmJ7 : ∀ a, a < 0 → ∀ b, b < 0 → a ≠ b → (TJ7 a).2.1 ≠ (TJ7 b).2.1 := by decide +kernel
theorem tyJ7_ok : ∀ k, k < 0 → parseFieldDescriptor (TJ7 k).2.2.1 = some (tyJ7 k) := by decide +kernel
abbrev cJ7_rangeCheck_23922 : ByteArray := prog_28_method_30_code
def yJ7_rangeCheck_23922 : MethodName := ⟨RJ7, "rangeCheck", "(III)V"⟩
abbrev cJ7_fill_d0a16 : ByteArray := prog_28_method_101_code
def yJ7_fill_d0a16 : MethodName := ⟨RJ7, "fill", "([JJ)V"⟩
abbrev cJ7_fill_53178 : ByteArray := prog_28_method_103_code
def yJ7_fill_53178 : MethodName := ⟨RJ7, "fill", "([II)V"⟩
abbrev cJ7_fill_eb02e : ByteArray := prog_28_method_110_code
def yJ7_fill_eb02e : MethodName := ⟨RJ7, "fill", "([BIIB)V"⟩
abbrev cJ7_fill_7f8df : ByteArray := prog_28_method_113_code
def yJ7_fill_7f8df : MethodName := ⟨RJ7, "fill", "([DD)V"⟩
abbrev cJ7_copyOf_9075b : ByteArray := prog_28_method_121_code
def yJ7_copyOf_9075b : MethodName := ⟨RJ7, "copyOf", "([BI)[B"⟩
def RJ8 : String := "jdk/internal/util/ArraysSupport"
def TJ8 : u_T := fun k => match k with
  | _ => ("", "", "", false)
def tyJ8 : Nat → FieldType := fun k => match k with
  | _ => .int
abbrev wsJ80 : List Cond := u_ws RJ8 TJ8 0
theorem nmJ8 : ∀ a, a < 0 → ∀ b, b < 0 → a ≠ b → (TJ8 a).2.1 ≠ (TJ8 b).2.1 := by decide +kernel
theorem tyJ8_ok : ∀ k, k < 0 → parseFieldDescriptor (TJ8 k).2.2.1 = some (tyJ8 k) := by decide +kernel
abbrev cJ8_newLength_cabcc : ByteArray := prog_29_method_27_code
def yJ8_newLength_cabcc : MethodName := ⟨RJ8, "newLength", "(III)I"⟩
abbrev cJ8_hugeLength_7cf53 : ByteArray := prog_29_method_28_code
def yJ8_hugeLength_7cf53 : MethodName := ⟨RJ8, "hugeLength", "(II)I"⟩
def RJ3 : String := "jdk/internal/util/Preconditions"
def TJ3 : u_T := fun k => match k with
  | _ => ("", "", "", false)
def tyJ3 : Nat → FieldType := fun k => match k with
  | _ => .int
abbrev wsJ30 : List Cond := u_ws RJ3 TJ3 0
theorem nmJ3 : ∀ a, a < 0 → ∀ b, b < 0 → a ≠ b → (TJ3 a).2.1 ≠ (TJ3 b).2.1 := by decide +kernel
theorem tyJ3_ok : ∀ k, k < 0 → parseFieldDescriptor (TJ3 k).2.2.1 = some (tyJ3 k) := by decide +kernel
abbrev cJ3_checkIndex_8e157 : ByteArray := prog_30_method_11_code
def yJ3_checkIndex_8e157 : MethodName := ⟨RJ3, "checkIndex", "(IILjava/util/function/BiFunction;)I"⟩
abbrev cJ3_checkFromToIndex_8c36e : ByteArray := prog_30_method_12_code
def yJ3_checkFromToIndex_8c36e : MethodName := ⟨RJ3, "checkFromToIndex", "(IIILjava/util/function/BiFunction;)I"⟩
abbrev cJ3_checkFromIndexSize_8c36e : ByteArray := prog_30_method_13_code
def yJ3_checkFromIndexSize_8c36e : MethodName := ⟨RJ3, "checkFromIndexSize", "(IIILjava/util/function/BiFunction;)I"⟩
def RL : String := "FareLimitsLaw"
abbrev vwCl : List vw_C := [(RJ4, TJ4, 4), (RX0, TX0, 2), (RX1, TX1, 9), (RX2, TX2, 4), (RX4, TX4, 4), (RX5, TX5, 5), (RX6, TX6, 4), (RX7, TX7, 9), (RX8, TX8, 3), (RX9, TX9, 2), (RX10, TX10, 4), (RX11, TX11, 12), (RX12, TX12, 29)]
/-- the words that are good to hand on -/
def lw_all : List Cond := lw_tbl.filter goodWord
theorem lw_inB {w : Cond} {i : Nat} (h : lw_tbl[i]? = some w) (g : goodWord w = true) : w ∈ lw_all := List.mem_filter.mpr ⟨List.mem_of_getElem? h, g⟩
theorem lw_inT {w : Cond} {i : Nat} (h : lw_tbl[i]? = some w) : w ∈ lw_tbl := List.mem_of_getElem? h
theorem lw_all_good : ∀ w ∈ lw_all, goodWord w = true := fun w h => (List.mem_filter.mp h).2
theorem lw_all_tbl {w : Cond} (h : w ∈ lw_all) : w ∈ lw_tbl := (List.mem_filter.mp h).1
end
section
theorem lw_s0 {w : Cond} (h : w ∈ k2_sels lw_privs) : w ∈ lw_tbl := List.mem_append_left _ h
theorem lw_in {w : Cond} (h : w ∈ lw_tbl) (g : goodWord w = true) : w ∈ lw_all := List.mem_filter.mpr ⟨h, g⟩
theorem lw_s1 {w : Cond} (h : w ∈ tables_1_1) : w ∈ lw_tbl := List.mem_append_right _ (show w ∈ tables_1 from List.mem_append_left _ h)
theorem lw_s2 {w : Cond} (h : w ∈ tables_1_2) : w ∈ lw_tbl := List.mem_append_right _ (show w ∈ tables_1 from List.mem_append_right _ (List.mem_append_left _ h))
theorem lw_s3 {w : Cond} (h : w ∈ tables_1_3) : w ∈ lw_tbl := List.mem_append_right _ (show w ∈ tables_1 from List.mem_append_right _ (List.mem_append_right _ (List.mem_append_left _ h)))
theorem lw_s4 {w : Cond} (h : w ∈ tables_1_4) : w ∈ lw_tbl := List.mem_append_right _ (show w ∈ tables_1 from List.mem_append_right _ (List.mem_append_right _ (List.mem_append_right _ (List.mem_append_left _ h))))
theorem lw_s5 {w : Cond} (h : w ∈ tables_1_5) : w ∈ lw_tbl := List.mem_append_right _ (show w ∈ tables_1 from List.mem_append_right _ (List.mem_append_right _ (List.mem_append_right _ (List.mem_append_right _ (List.mem_append_left _ h)))))
theorem lw_s6 {w : Cond} (h : w ∈ tables_1_6) : w ∈ lw_tbl := List.mem_append_right _ (show w ∈ tables_1 from List.mem_append_right _ (List.mem_append_right _ (List.mem_append_right _ (List.mem_append_right _ (List.mem_append_right _ (List.mem_append_left _ h))))))
theorem lw_s7 {w : Cond} (h : w ∈ tables_1_7) : w ∈ lw_tbl := List.mem_append_right _ (show w ∈ tables_1 from List.mem_append_right _ (List.mem_append_right _ (List.mem_append_right _ (List.mem_append_right _ (List.mem_append_right _ (List.mem_append_right _ (h)))))))
theorem kw_0 : (Jvm.Cond.selects "FareLimits$Worths" ({ cls := "FareLimits$Worths", name := "make", desc := "(I)V" } : Jvm.MethodName) ({ cls := "FareLimits$Worths", name := "make", desc := "(I)V" } : Jvm.MethodName)) ∈ lw_all := lw_in (lw_s0 (List.mem_of_getElem? (i := 0) (by decide +kernel))) (by decide +kernel)
theorem kw_1 : (Jvm.Cond.selects "FareLimits$Worths" ({ cls := "FareLimits$Worths", name := "worthOf", desc := "([DII)D" } : Jvm.MethodName) ({ cls := "FareLimits$Worths", name := "worthOf", desc := "([DII)D" } : Jvm.MethodName)) ∈ lw_all := lw_in (lw_s0 (List.mem_of_getElem? (i := 1) (by decide +kernel))) (by decide +kernel)
theorem kw_2 : (Jvm.Cond.selects "FareLimits$Whole" ({ cls := "FareLimits$Whole", name := "nextGross", desc := "(IIJ)J" } : Jvm.MethodName) ({ cls := "FareLimits$Whole", name := "nextGross", desc := "(IIJ)J" } : Jvm.MethodName)) ∈ lw_all := lw_in (lw_s0 (List.mem_of_getElem? (i := 2) (by decide +kernel))) (by decide +kernel)
theorem kw_3 : (Jvm.Cond.selects "FareLimits$Chances" ({ cls := "FareLimits$Chances", name := "begin", desc := "()V" } : Jvm.MethodName) ({ cls := "FareLimits$Chances", name := "begin", desc := "()V" } : Jvm.MethodName)) ∈ lw_all := lw_in (lw_s0 (List.mem_of_getElem? (i := 3) (by decide +kernel))) (by decide +kernel)
theorem kw_4 : (Jvm.Cond.selects "FareLimits$Chances" ({ cls := "FareLimits$Chances", name := "oneMore", desc := "(IDD)V" } : Jvm.MethodName) ({ cls := "FareLimits$Chances", name := "oneMore", desc := "(IDD)V" } : Jvm.MethodName)) ∈ lw_all := lw_in (lw_s0 (List.mem_of_getElem? (i := 4) (by decide +kernel))) (by decide +kernel)
theorem kw_5 : (Jvm.Cond.selects "FareLimits$Whole" ({ cls := "FareLimits$Whole", name := "setsOf", desc := "(II)J" } : Jvm.MethodName) ({ cls := "FareLimits$Whole", name := "setsOf", desc := "(II)J" } : Jvm.MethodName)) ∈ lw_all := lw_in (lw_s0 (List.mem_of_getElem? (i := 5) (by decide +kernel))) (by decide +kernel)
theorem kw_6 : (Jvm.Cond.selects "FareLimits$Tape" ({ cls := "FareLimits$Tape", name := "faultOfPart", desc := "(LFareLimits$Network;)I" } : Jvm.MethodName) ({ cls := "FareLimits$Tape", name := "faultOfPart", desc := "(LFareLimits$Network;)I" } : Jvm.MethodName)) ∈ lw_all := lw_in (lw_s0 (List.mem_of_getElem? (i := 6) (by decide +kernel))) (by decide +kernel)
theorem kw_7 : (Jvm.Cond.selects "FareLimits$Tape" ({ cls := "FareLimits$Tape", name := "faultOfName", desc := "(LFareLimits$Network;)I" } : Jvm.MethodName) ({ cls := "FareLimits$Tape", name := "faultOfName", desc := "(LFareLimits$Network;)I" } : Jvm.MethodName)) ∈ lw_all := lw_in (lw_s0 (List.mem_of_getElem? (i := 7) (by decide +kernel))) (by decide +kernel)
theorem kw_8 : (Jvm.Cond.selects "FareLimits$Tape" ({ cls := "FareLimits$Tape", name := "byteAt", desc := "(I)I" } : Jvm.MethodName) ({ cls := "FareLimits$Tape", name := "byteAt", desc := "(I)I" } : Jvm.MethodName)) ∈ lw_all := lw_in (lw_s0 (List.mem_of_getElem? (i := 8) (by decide +kernel))) (by decide +kernel)
theorem kw_9 : (Jvm.Cond.selects "FareLimits$Tape" ({ cls := "FareLimits$Tape", name := "isRead", desc := "(I)Z" } : Jvm.MethodName) ({ cls := "FareLimits$Tape", name := "isRead", desc := "(I)Z" } : Jvm.MethodName)) ∈ lw_all := lw_in (lw_s0 (List.mem_of_getElem? (i := 9) (by decide +kernel))) (by decide +kernel)
theorem kw_10 : (Jvm.Cond.selects "FareLimits$Tape" ({ cls := "FareLimits$Tape", name := "faultOfSign", desc := "(I)I" } : Jvm.MethodName) ({ cls := "FareLimits$Tape", name := "faultOfSign", desc := "(I)I" } : Jvm.MethodName)) ∈ lw_all := lw_in (lw_s0 (List.mem_of_getElem? (i := 10) (by decide +kernel))) (by decide +kernel)
theorem kw_11 : (Jvm.Cond.selects "FareLimits$Tape" ({ cls := "FareLimits$Tape", name := "faultOfLegs", desc := "()I" } : Jvm.MethodName) ({ cls := "FareLimits$Tape", name := "faultOfLegs", desc := "()I" } : Jvm.MethodName)) ∈ lw_all := lw_in (lw_s0 (List.mem_of_getElem? (i := 11) (by decide +kernel))) (by decide +kernel)
theorem kw_12 : (Jvm.Cond.selects "FareLimits$Tape" ({ cls := "FareLimits$Tape", name := "faultOfPrice", desc := "()I" } : Jvm.MethodName) ({ cls := "FareLimits$Tape", name := "faultOfPrice", desc := "()I" } : Jvm.MethodName)) ∈ lw_all := lw_in (lw_s0 (List.mem_of_getElem? (i := 12) (by decide +kernel))) (by decide +kernel)
theorem kw_13 : (Jvm.Cond.selects "FareLimits$Tape" ({ cls := "FareLimits$Tape", name := "numberOf", desc := "(I)I" } : Jvm.MethodName) ({ cls := "FareLimits$Tape", name := "numberOf", desc := "(I)I" } : Jvm.MethodName)) ∈ lw_all := lw_in (lw_s0 (List.mem_of_getElem? (i := 13) (by decide +kernel))) (by decide +kernel)
theorem kw_14 : (Jvm.Cond.selects "FareLimits$Tape" ({ cls := "FareLimits$Tape", name := "faultOfWanted", desc := "()I" } : Jvm.MethodName) ({ cls := "FareLimits$Tape", name := "faultOfWanted", desc := "()I" } : Jvm.MethodName)) ∈ lw_all := lw_in (lw_s0 (List.mem_of_getElem? (i := 14) (by decide +kernel))) (by decide +kernel)
theorem kw_15 : (Jvm.Cond.selects "FareLimits$Network" ({ cls := "FareLimits$Network", name := "dearestBut", desc := "(II)I" } : Jvm.MethodName) ({ cls := "FareLimits$Network", name := "dearestBut", desc := "(II)I" } : Jvm.MethodName)) ∈ lw_all := lw_in (lw_s0 (List.mem_of_getElem? (i := 15) (by decide +kernel))) (by decide +kernel)
theorem kw_16 : (Jvm.Cond.selects "FareLimits$Network" ({ cls := "FareLimits$Network", name := "spellRoute", desc := "(Ljava/lang/StringBuilder;LFareLimits$Route;)V" } : Jvm.MethodName) ({ cls := "FareLimits$Network", name := "spellRoute", desc := "(Ljava/lang/StringBuilder;LFareLimits$Route;)V" } : Jvm.MethodName)) ∈ lw_all := lw_in (lw_s0 (List.mem_of_getElem? (i := 16) (by decide +kernel))) (by decide +kernel)
theorem kw_17 : (Jvm.Cond.selects "FareLimits" ({ cls := "FareLimits", name := "answerRequests", desc := "(II)I" } : Jvm.MethodName) ({ cls := "FareLimits", name := "answerRequests", desc := "(II)I" } : Jvm.MethodName)) ∈ lw_all := lw_in (lw_s0 (List.mem_of_getElem? (i := 17) (by decide +kernel))) (by decide +kernel)
theorem kw_18 : (Jvm.Cond.selects "FareLimits$Day" ({ cls := "FareLimits$Day", name := "handGives", desc := "(I)Z" } : Jvm.MethodName) ({ cls := "FareLimits$Day", name := "handGives", desc := "(I)Z" } : Jvm.MethodName)) ∈ lw_all := lw_in (lw_s0 (List.mem_of_getElem? (i := 18) (by decide +kernel))) (by decide +kernel)
theorem kw_19 : (Jvm.Cond.selects "FareLimits$Day" ({ cls := "FareLimits$Day", name := "fareDrawn", desc := "(II)I" } : Jvm.MethodName) ({ cls := "FareLimits$Day", name := "fareDrawn", desc := "(II)I" } : Jvm.MethodName)) ∈ lw_all := lw_in (lw_s0 (List.mem_of_getElem? (i := 19) (by decide +kernel))) (by decide +kernel)
theorem kw_20 : (Jvm.Cond.selects "FareLimitsModel" ({ cls := "FareLimitsModel", name := "isFare", desc := "(I)Z" } : Jvm.MethodName) ({ cls := "FareLimitsModel", name := "isFare", desc := "(I)Z" } : Jvm.MethodName)) ∈ lw_all := lw_in (lw_s0 (List.mem_of_getElem? (i := 20) (by decide +kernel))) (by decide +kernel)
theorem kw_21 : (Jvm.Cond.selects "FareLimitsModel" ({ cls := "FareLimitsModel", name := "price", desc := "(I)I" } : Jvm.MethodName) ({ cls := "FareLimitsModel", name := "price", desc := "(I)I" } : Jvm.MethodName)) ∈ lw_all := lw_in (lw_s0 (List.mem_of_getElem? (i := 21) (by decide +kernel))) (by decide +kernel)
theorem kw_22 : (Jvm.Cond.selects "FareLimitsModel" ({ cls := "FareLimitsModel", name := "showing", desc := "(I)D" } : Jvm.MethodName) ({ cls := "FareLimitsModel", name := "showing", desc := "(I)D" } : Jvm.MethodName)) ∈ lw_all := lw_in (lw_s0 (List.mem_of_getElem? (i := 22) (by decide +kernel))) (by decide +kernel)
theorem kw_23 : (Jvm.Cond.selects "FareLimitsModel" ({ cls := "FareLimitsModel", name := "netOf", desc := "(II)D" } : Jvm.MethodName) ({ cls := "FareLimitsModel", name := "netOf", desc := "(II)D" } : Jvm.MethodName)) ∈ lw_all := lw_in (lw_s0 (List.mem_of_getElem? (i := 23) (by decide +kernel))) (by decide +kernel)
theorem kw_24 : (Jvm.Cond.selects "FareLimitsModel" ({ cls := "FareLimitsModel", name := "isSeat", desc := "(I)Z" } : Jvm.MethodName) ({ cls := "FareLimitsModel", name := "isSeat", desc := "(I)Z" } : Jvm.MethodName)) ∈ lw_all := lw_in (lw_s0 (List.mem_of_getElem? (i := 24) (by decide +kernel))) (by decide +kernel)
theorem kw_25 : (Jvm.Cond.selects "FareLimitsModel" ({ cls := "FareLimitsModel", name := "reckons", desc := "(I)V" } : Jvm.MethodName) ({ cls := "FareLimitsModel", name := "reckons", desc := "(I)V" } : Jvm.MethodName)) ∈ lw_all := lw_in (lw_s0 (List.mem_of_getElem? (i := 25) (by decide +kernel))) (by decide +kernel)
theorem kw_26 : (Jvm.Cond.selects "FareLimitsModel" ({ cls := "FareLimitsModel", name := "worthOf", desc := "(II)D" } : Jvm.MethodName) ({ cls := "FareLimitsModel", name := "worthOf", desc := "(II)D" } : Jvm.MethodName)) ∈ lw_all := lw_in (lw_s0 (List.mem_of_getElem? (i := 26) (by decide +kernel))) (by decide +kernel)
theorem kw_27 : (Jvm.Cond.selects "FareLimitsModel" ({ cls := "FareLimitsModel", name := "gain", desc := "(III)D" } : Jvm.MethodName) ({ cls := "FareLimitsModel", name := "gain", desc := "(III)D" } : Jvm.MethodName)) ∈ lw_all := lw_in (lw_s0 (List.mem_of_getElem? (i := 27) (by decide +kernel))) (by decide +kernel)
theorem kw_28 : (Jvm.Cond.selects "FareLimitsModel" ({ cls := "FareLimitsModel", name := "odds", desc := "(II)I" } : Jvm.MethodName) ({ cls := "FareLimitsModel", name := "odds", desc := "(II)I" } : Jvm.MethodName)) ∈ lw_all := lw_in (lw_s0 (List.mem_of_getElem? (i := 28) (by decide +kernel))) (by decide +kernel)
theorem kw_29 : (Jvm.Cond.selects "FareLimitsModel" ({ cls := "FareLimitsModel", name := "next", desc := "(II)J" } : Jvm.MethodName) ({ cls := "FareLimitsModel", name := "next", desc := "(II)J" } : Jvm.MethodName)) ∈ lw_all := lw_in (lw_s0 (List.mem_of_getElem? (i := 29) (by decide +kernel))) (by decide +kernel)
theorem kw_30 : (Jvm.Cond.selects "FareLimitsModel" ({ cls := "FareLimitsModel", name := "times", desc := "(JJ)J" } : Jvm.MethodName) ({ cls := "FareLimitsModel", name := "times", desc := "(JJ)J" } : Jvm.MethodName)) ∈ lw_all := lw_in (lw_s0 (List.mem_of_getElem? (i := 30) (by decide +kernel))) (by decide +kernel)
theorem kw_31 : (Jvm.Cond.selects "FareLimitsModel" ({ cls := "FareLimitsModel", name := "power", desc := "(II)J" } : Jvm.MethodName) ({ cls := "FareLimitsModel", name := "power", desc := "(II)J" } : Jvm.MethodName)) ∈ lw_all := lw_in (lw_s0 (List.mem_of_getElem? (i := 31) (by decide +kernel))) (by decide +kernel)
theorem kw_32 : (Jvm.Cond.selects "FareLimitsModel" ({ cls := "FareLimitsModel", name := "plus", desc := "(JJ)J" } : Jvm.MethodName) ({ cls := "FareLimitsModel", name := "plus", desc := "(JJ)J" } : Jvm.MethodName)) ∈ lw_all := lw_in (lw_s0 (List.mem_of_getElem? (i := 32) (by decide +kernel))) (by decide +kernel)
theorem kw_33 : (Jvm.Cond.selects "FareLimitsModel" ({ cls := "FareLimitsModel", name := "isTaken", desc := "(III)Z" } : Jvm.MethodName) ({ cls := "FareLimitsModel", name := "isTaken", desc := "(III)Z" } : Jvm.MethodName)) ∈ lw_all := lw_in (lw_s0 (List.mem_of_getElem? (i := 33) (by decide +kernel))) (by decide +kernel)
theorem kw_34 : (Jvm.Cond.selects "FareLimitsModel" ({ cls := "FareLimitsModel", name := "chances", desc := "(II)V" } : Jvm.MethodName) ({ cls := "FareLimitsModel", name := "chances", desc := "(II)V" } : Jvm.MethodName)) ∈ lw_all := lw_in (lw_s0 (List.mem_of_getElem? (i := 34) (by decide +kernel))) (by decide +kernel)
theorem kw_35 : (Jvm.Cond.selects "FareLimitsModel" ({ cls := "FareLimitsModel", name := "turnedOf", desc := "(I)D" } : Jvm.MethodName) ({ cls := "FareLimitsModel", name := "turnedOf", desc := "(I)D" } : Jvm.MethodName)) ∈ lw_all := lw_in (lw_s0 (List.mem_of_getElem? (i := 35) (by decide +kernel))) (by decide +kernel)
theorem kw_36 : (Jvm.Cond.selects "FareLimitsModel" ({ cls := "FareLimitsModel", name := "hadOf", desc := "(II)D" } : Jvm.MethodName) ({ cls := "FareLimitsModel", name := "hadOf", desc := "(II)D" } : Jvm.MethodName)) ∈ lw_all := lw_in (lw_s0 (List.mem_of_getElem? (i := 36) (by decide +kernel))) (by decide +kernel)
theorem kw_37 : (Jvm.Cond.selects "FareLimitsModel" ({ cls := "FareLimitsModel", name := "setsOf", desc := "(II)J" } : Jvm.MethodName) ({ cls := "FareLimitsModel", name := "setsOf", desc := "(II)J" } : Jvm.MethodName)) ∈ lw_all := lw_in (lw_s0 (List.mem_of_getElem? (i := 37) (by decide +kernel))) (by decide +kernel)
theorem kw_38 : (Jvm.Cond.selects "FareLimitsModel" ({ cls := "FareLimitsModel", name := "asks", desc := "(II)V" } : Jvm.MethodName) ({ cls := "FareLimitsModel", name := "asks", desc := "(II)V" } : Jvm.MethodName)) ∈ lw_all := lw_in (lw_s0 (List.mem_of_getElem? (i := 38) (by decide +kernel))) (by decide +kernel)
theorem kw_39 : (Jvm.Cond.selects "FareLimitsModel" ({ cls := "FareLimitsModel", name := "opens", desc := "()V" } : Jvm.MethodName) ({ cls := "FareLimitsModel", name := "opens", desc := "()V" } : Jvm.MethodName)) ∈ lw_all := lw_in (lw_s0 (List.mem_of_getElem? (i := 39) (by decide +kernel))) (by decide +kernel)
theorem kw_40 : (Jvm.Cond.selects "FareLimitsModel" ({ cls := "FareLimitsModel", name := "drawnFare", desc := "(I)I" } : Jvm.MethodName) ({ cls := "FareLimitsModel", name := "drawnFare", desc := "(I)I" } : Jvm.MethodName)) ∈ lw_all := lw_in (lw_s0 (List.mem_of_getElem? (i := 40) (by decide +kernel))) (by decide +kernel)
theorem kw_41 : (Jvm.Cond.selects "FareLimitsModel" ({ cls := "FareLimitsModel", name := "has", desc := "(III)Z" } : Jvm.MethodName) ({ cls := "FareLimitsModel", name := "has", desc := "(III)Z" } : Jvm.MethodName)) ∈ lw_all := lw_in (lw_s0 (List.mem_of_getElem? (i := 41) (by decide +kernel))) (by decide +kernel)
theorem kw_42 : (Jvm.Cond.selects "FareLimitsModel" ({ cls := "FareLimitsModel", name := "isByHand", desc := "(I)Z" } : Jvm.MethodName) ({ cls := "FareLimitsModel", name := "isByHand", desc := "(I)Z" } : Jvm.MethodName)) ∈ lw_all := lw_in (lw_s0 (List.mem_of_getElem? (i := 42) (by decide +kernel))) (by decide +kernel)
theorem kw_43 : (Jvm.Cond.selects "FareLimitsModel" ({ cls := "FareLimitsModel", name := "isRoute", desc := "(I)Z" } : Jvm.MethodName) ({ cls := "FareLimitsModel", name := "isRoute", desc := "(I)Z" } : Jvm.MethodName)) ∈ lw_all := lw_in (lw_s0 (List.mem_of_getElem? (i := 43) (by decide +kernel))) (by decide +kernel)
theorem kw_44 : (Jvm.Cond.selects "FareLimitsModel" ({ cls := "FareLimitsModel", name := "isOver", desc := "(II)Z" } : Jvm.MethodName) ({ cls := "FareLimitsModel", name := "isOver", desc := "(II)Z" } : Jvm.MethodName)) ∈ lw_all := lw_in (lw_s0 (List.mem_of_getElem? (i := 44) (by decide +kernel))) (by decide +kernel)
theorem kw_45 : (Jvm.Cond.selects "FareLimitsModel" ({ cls := "FareLimitsModel", name := "legs", desc := "(I)I" } : Jvm.MethodName) ({ cls := "FareLimitsModel", name := "legs", desc := "(I)I" } : Jvm.MethodName)) ∈ lw_all := lw_in (lw_s0 (List.mem_of_getElem? (i := 45) (by decide +kernel))) (by decide +kernel)
theorem kw_46 : (Jvm.Cond.selects "FareLimitsModel" ({ cls := "FareLimitsModel", name := "partOf", desc := "(II)F" } : Jvm.MethodName) ({ cls := "FareLimitsModel", name := "partOf", desc := "(II)F" } : Jvm.MethodName)) ∈ lw_all := lw_in (lw_s0 (List.mem_of_getElem? (i := 46) (by decide +kernel))) (by decide +kernel)
theorem kw_47 : (Jvm.Cond.selects "FareLimitsModel" ({ cls := "FareLimitsModel", name := "fee", desc := "(I)I" } : Jvm.MethodName) ({ cls := "FareLimitsModel", name := "fee", desc := "(I)I" } : Jvm.MethodName)) ∈ lw_all := lw_in (lw_s0 (List.mem_of_getElem? (i := 47) (by decide +kernel))) (by decide +kernel)
theorem kw_48 : (Jvm.Cond.selects "FareLimitsModel" ({ cls := "FareLimitsModel", name := "costOf", desc := "(I)F" } : Jvm.MethodName) ({ cls := "FareLimitsModel", name := "costOf", desc := "(I)F" } : Jvm.MethodName)) ∈ lw_all := lw_in (lw_s0 (List.mem_of_getElem? (i := 48) (by decide +kernel))) (by decide +kernel)
theorem kw_49 : (Jvm.Cond.selects "FareLimitsModel" ({ cls := "FareLimitsModel", name := "wanted", desc := "(I)I" } : Jvm.MethodName) ({ cls := "FareLimitsModel", name := "wanted", desc := "(I)I" } : Jvm.MethodName)) ∈ lw_all := lw_in (lw_s0 (List.mem_of_getElem? (i := 49) (by decide +kernel))) (by decide +kernel)
theorem kw_50 : (Jvm.Cond.selects "FareLimitsModel" ({ cls := "FareLimitsModel", name := "letters", desc := "(I)I" } : Jvm.MethodName) ({ cls := "FareLimitsModel", name := "letters", desc := "(I)I" } : Jvm.MethodName)) ∈ lw_all := lw_in (lw_s0 (List.mem_of_getElem? (i := 50) (by decide +kernel))) (by decide +kernel)
theorem kw_51 : (Jvm.Cond.selects "FareLimitsModel" ({ cls := "FareLimitsModel", name := "isIn", desc := "(I)Z" } : Jvm.MethodName) ({ cls := "FareLimitsModel", name := "isIn", desc := "(I)Z" } : Jvm.MethodName)) ∈ lw_all := lw_in (lw_s0 (List.mem_of_getElem? (i := 51) (by decide +kernel))) (by decide +kernel)
theorem kw_52 : (Jvm.Cond.selects "FareLimitsModel" ({ cls := "FareLimitsModel", name := "readRoute", desc := "()V" } : Jvm.MethodName) ({ cls := "FareLimitsModel", name := "readRoute", desc := "()V" } : Jvm.MethodName)) ∈ lw_all := lw_in (lw_s0 (List.mem_of_getElem? (i := 52) (by decide +kernel))) (by decide +kernel)
theorem kw_53 : (Jvm.Cond.selects "FareLimitsModel" ({ cls := "FareLimitsModel", name := "wrong", desc := "(I)V" } : Jvm.MethodName) ({ cls := "FareLimitsModel", name := "wrong", desc := "(I)V" } : Jvm.MethodName)) ∈ lw_all := lw_in (lw_s0 (List.mem_of_getElem? (i := 53) (by decide +kernel))) (by decide +kernel)
theorem kw_54 : (Jvm.Cond.selects "FareLimitsModel" ({ cls := "FareLimitsModel", name := "name", desc := "()V" } : Jvm.MethodName) ({ cls := "FareLimitsModel", name := "name", desc := "()V" } : Jvm.MethodName)) ∈ lw_all := lw_in (lw_s0 (List.mem_of_getElem? (i := 54) (by decide +kernel))) (by decide +kernel)
theorem kw_55 : (Jvm.Cond.selects "FareLimitsModel" ({ cls := "FareLimitsModel", name := "isSign", desc := "(II)Z" } : Jvm.MethodName) ({ cls := "FareLimitsModel", name := "isSign", desc := "(II)Z" } : Jvm.MethodName)) ∈ lw_all := lw_in (lw_s0 (List.mem_of_getElem? (i := 55) (by decide +kernel))) (by decide +kernel)
theorem kw_56 : (Jvm.Cond.selects "FareLimitsModel" ({ cls := "FareLimitsModel", name := "by", desc := "(I)I" } : Jvm.MethodName) ({ cls := "FareLimitsModel", name := "by", desc := "(I)I" } : Jvm.MethodName)) ∈ lw_all := lw_in (lw_s0 (List.mem_of_getElem? (i := 56) (by decide +kernel))) (by decide +kernel)
theorem kw_57 : (Jvm.Cond.selects "FareLimitsModel" ({ cls := "FareLimitsModel", name := "needs", desc := "(I)V" } : Jvm.MethodName) ({ cls := "FareLimitsModel", name := "needs", desc := "(I)V" } : Jvm.MethodName)) ∈ lw_all := lw_in (lw_s0 (List.mem_of_getElem? (i := 57) (by decide +kernel))) (by decide +kernel)
theorem kw_58 : (Jvm.Cond.selects "FareLimitsModel" ({ cls := "FareLimitsModel", name := "takes", desc := "(I)Z" } : Jvm.MethodName) ({ cls := "FareLimitsModel", name := "takes", desc := "(I)Z" } : Jvm.MethodName)) ∈ lw_all := lw_in (lw_s0 (List.mem_of_getElem? (i := 58) (by decide +kernel))) (by decide +kernel)
theorem kw_59 : (Jvm.Cond.selects "FareLimitsModel" ({ cls := "FareLimitsModel", name := "number", desc := "(II)I" } : Jvm.MethodName) ({ cls := "FareLimitsModel", name := "number", desc := "(II)I" } : Jvm.MethodName)) ∈ lw_all := lw_in (lw_s0 (List.mem_of_getElem? (i := 59) (by decide +kernel))) (by decide +kernel)
theorem kw_60 : (Jvm.Cond.selects "FareLimitsModel" ({ cls := "FareLimitsModel", name := "comes", desc := "()V" } : Jvm.MethodName) ({ cls := "FareLimitsModel", name := "comes", desc := "()V" } : Jvm.MethodName)) ∈ lw_all := lw_in (lw_s0 (List.mem_of_getElem? (i := 60) (by decide +kernel))) (by decide +kernel)
theorem kw_61 : (Jvm.Cond.selects "FareLimitsModel" ({ cls := "FareLimitsModel", name := "goes", desc := "(I)I" } : Jvm.MethodName) ({ cls := "FareLimitsModel", name := "goes", desc := "(I)I" } : Jvm.MethodName)) ∈ lw_all := lw_in (lw_s0 (List.mem_of_getElem? (i := 61) (by decide +kernel))) (by decide +kernel)
theorem kw_62 : (Jvm.Cond.selects "FareLimitsModel" ({ cls := "FareLimitsModel", name := "wrongSign", desc := "()I" } : Jvm.MethodName) ({ cls := "FareLimitsModel", name := "wrongSign", desc := "()I" } : Jvm.MethodName)) ∈ lw_all := lw_in (lw_s0 (List.mem_of_getElem? (i := 62) (by decide +kernel))) (by decide +kernel)
theorem kw_63 : (Jvm.Cond.selects "FareLimitsModel" ({ cls := "FareLimitsModel", name := "behind", desc := "(I)I" } : Jvm.MethodName) ({ cls := "FareLimitsModel", name := "behind", desc := "(I)I" } : Jvm.MethodName)) ∈ lw_all := lw_in (lw_s0 (List.mem_of_getElem? (i := 63) (by decide +kernel))) (by decide +kernel)
theorem kw_64 : (Jvm.Cond.selects "FareLimitsModel" ({ cls := "FareLimitsModel", name := "writes", desc := "(I)V" } : Jvm.MethodName) ({ cls := "FareLimitsModel", name := "writes", desc := "(I)V" } : Jvm.MethodName)) ∈ lw_all := lw_in (lw_s0 (List.mem_of_getElem? (i := 64) (by decide +kernel))) (by decide +kernel)
theorem kw_65 : (Jvm.Cond.selects "FareLimitsModel" ({ cls := "FareLimitsModel", name := "writesNumber", desc := "(I)V" } : Jvm.MethodName) ({ cls := "FareLimitsModel", name := "writesNumber", desc := "(I)V" } : Jvm.MethodName)) ∈ lw_all := lw_in (lw_s0 (List.mem_of_getElem? (i := 65) (by decide +kernel))) (by decide +kernel)
theorem kw_66 : (Jvm.Cond.selects "FareLimitsModel" ({ cls := "FareLimitsModel", name := "unlike", desc := "()I" } : Jvm.MethodName) ({ cls := "FareLimitsModel", name := "unlike", desc := "()I" } : Jvm.MethodName)) ∈ lw_all := lw_in (lw_s0 (List.mem_of_getElem? (i := 66) (by decide +kernel))) (by decide +kernel)
theorem kw_67 : (Jvm.Cond.selects "FareLimitsModel" ({ cls := "FareLimitsModel", name := "greatest", desc := "()I" } : Jvm.MethodName) ({ cls := "FareLimitsModel", name := "greatest", desc := "()I" } : Jvm.MethodName)) ∈ lw_all := lw_in (lw_s0 (List.mem_of_getElem? (i := 67) (by decide +kernel))) (by decide +kernel)
theorem kw_68 : (Jvm.Cond.selects "FareLimitsModel" ({ cls := "FareLimitsModel", name := "whyNot", desc := "(II)I" } : Jvm.MethodName) ({ cls := "FareLimitsModel", name := "whyNot", desc := "(II)I" } : Jvm.MethodName)) ∈ lw_all := lw_in (lw_s0 (List.mem_of_getElem? (i := 68) (by decide +kernel))) (by decide +kernel)
theorem kw_69 : (Jvm.Cond.initialized "FareLimitsLaw") ∈ lw_all := lw_in (lw_s1 (List.mem_of_getElem? (i := 0) (by decide +kernel))) (by decide +kernel)
theorem kw_70 : (Jvm.Cond.initialized "FareLimits") ∈ lw_all := lw_in (lw_s1 (List.mem_of_getElem? (i := 1) (by decide +kernel))) (by decide +kernel)
theorem kw_71 : (Jvm.Cond.initialized "FareLimits$Plan") ∈ lw_all := lw_in (lw_s1 (List.mem_of_getElem? (i := 2) (by decide +kernel))) (by decide +kernel)
theorem kw_72 : (Jvm.Cond.initialized "FareLimits$Network") ∈ lw_all := lw_in (lw_s1 (List.mem_of_getElem? (i := 3) (by decide +kernel))) (by decide +kernel)
theorem kw_73 : (Jvm.Cond.initialized "FareLimits$Fare") ∈ lw_all := lw_in (lw_s1 (List.mem_of_getElem? (i := 4) (by decide +kernel))) (by decide +kernel)
theorem kw_74 : (Jvm.Cond.initialized "java/lang/Enum") ∈ lw_all := lw_in (lw_s1 (List.mem_of_getElem? (i := 5) (by decide +kernel))) (by decide +kernel)
theorem kw_75 : (Jvm.Cond.initialized "FareLimits$Kind") ∈ lw_all := lw_in (lw_s1 (List.mem_of_getElem? (i := 6) (by decide +kernel))) (by decide +kernel)
theorem kw_76 : (Jvm.Cond.initialized "FareLimits$Worths") ∈ lw_all := lw_in (lw_s1 (List.mem_of_getElem? (i := 7) (by decide +kernel))) (by decide +kernel)
theorem kw_77 : (Jvm.Cond.initialized "FareLimits$Whole") ∈ lw_all := lw_in (lw_s1 (List.mem_of_getElem? (i := 8) (by decide +kernel))) (by decide +kernel)
theorem kw_78 : (Jvm.Cond.initialized "FareLimits$Chances") ∈ lw_all := lw_in (lw_s1 (List.mem_of_getElem? (i := 9) (by decide +kernel))) (by decide +kernel)
theorem kw_79 : (Jvm.Cond.initialized "FareLimits$Tape") ∈ lw_all := lw_in (lw_s1 (List.mem_of_getElem? (i := 10) (by decide +kernel))) (by decide +kernel)
theorem kw_80 : (Jvm.Cond.initialized "FareLimits$Day") ∈ lw_all := lw_in (lw_s1 (List.mem_of_getElem? (i := 11) (by decide +kernel))) (by decide +kernel)
theorem kw_81 : (Jvm.Cond.initialized "java/lang/AbstractStringBuilder") ∈ lw_all := lw_in (lw_s1 (List.mem_of_getElem? (i := 12) (by decide +kernel))) (by decide +kernel)
theorem kw_82 : (Jvm.Cond.initialized "java/lang/StringBuilder") ∈ lw_all := lw_in (lw_s1 (List.mem_of_getElem? (i := 13) (by decide +kernel))) (by decide +kernel)
theorem kw_83 : (Jvm.Cond.initialized "java/lang/String") ∈ lw_all := lw_in (lw_s1 (List.mem_of_getElem? (i := 14) (by decide +kernel))) (by decide +kernel)
theorem kw_84 : (Jvm.Cond.initialized "java/lang/StringUTF16") ∈ lw_all := lw_in (lw_s1 (List.mem_of_getElem? (i := 15) (by decide +kernel))) (by decide +kernel)
theorem kw_85 : (Jvm.Cond.initialized "FareLimits$Tray") ∈ lw_all := lw_in (lw_s1 (List.mem_of_getElem? (i := 16) (by decide +kernel))) (by decide +kernel)
theorem kw_86 : (Jvm.Cond.initialized "java/util/Arrays") ∈ lw_all := lw_in (lw_s1 (List.mem_of_getElem? (i := 17) (by decide +kernel))) (by decide +kernel)
theorem kw_87 : (Jvm.Cond.initialized "FareLimitsModel") ∈ lw_all := lw_in (lw_s1 (List.mem_of_getElem? (i := 18) (by decide +kernel))) (by decide +kernel)
theorem kw_88 : (Jvm.Cond.initialized "java/lang/Number") ∈ lw_all := lw_in (lw_s1 (List.mem_of_getElem? (i := 19) (by decide +kernel))) (by decide +kernel)
theorem kw_89 : (Jvm.Cond.initialized "java/lang/Double") ∈ lw_all := lw_in (lw_s1 (List.mem_of_getElem? (i := 20) (by decide +kernel))) (by decide +kernel)
theorem kw_90 : (Jvm.Cond.initialized "java/lang/Math") ∈ lw_all := lw_in (lw_s1 (List.mem_of_getElem? (i := 21) (by decide +kernel))) (by decide +kernel)
theorem kw_91 : (Jvm.Cond.initialized "java/lang/Float") ∈ lw_all := lw_in (lw_s1 (List.mem_of_getElem? (i := 22) (by decide +kernel))) (by decide +kernel)
theorem kw_92 : (Jvm.Cond.initialized "FareLimits$Route") ∈ lw_all := lw_in (lw_s1 (List.mem_of_getElem? (i := 23) (by decide +kernel))) (by decide +kernel)
theorem kw_93 : (Jvm.Cond.initialized "jdk/internal/util/ArraysSupport") ∈ lw_all := lw_in (lw_s1 (List.mem_of_getElem? (i := 24) (by decide +kernel))) (by decide +kernel)
theorem kw_94 : (Jvm.Cond.initialized "java/lang/System") ∈ lw_all := lw_in (lw_s1 (List.mem_of_getElem? (i := 25) (by decide +kernel))) (by decide +kernel)
theorem kw_95 : (Jvm.Cond.initialized "java/lang/StringLatin1") ∈ lw_all := lw_in (lw_s1 (List.mem_of_getElem? (i := 26) (by decide +kernel))) (by decide +kernel)
theorem kw_96 : (Jvm.Cond.initialized "jdk/internal/util/Preconditions") ∈ lw_all := lw_in (lw_s1 (List.mem_of_getElem? (i := 27) (by decide +kernel))) (by decide +kernel)
theorem kw_97 : (Jvm.Cond.initialized "java/lang/Integer") ∈ lw_all := lw_in (lw_s1 (List.mem_of_getElem? (i := 28) (by decide +kernel))) (by decide +kernel)
theorem kw_98 : (Jvm.Cond.classLink "FareLimitsLaw" (7 : Nat) "FareLimits") ∈ lw_all := lw_in (lw_s1 (List.mem_of_getElem? (i := 29) (by decide +kernel))) (by decide +kernel)
theorem kw_99 : (Jvm.Cond.instantiable "FareLimits" (12 : Nat)) ∈ lw_all := lw_in (lw_s1 (List.mem_of_getElem? (i := 30) (by decide +kernel))) (by decide +kernel)
theorem kw_100 : (Jvm.Cond.methodLink "FareLimitsLaw" (9 : Nat) ({ cls := "FareLimits", name := "<init>", desc := "()V" } : Jvm.MethodName)) ∈ lw_all := lw_in (lw_s1 (List.mem_of_getElem? (i := 31) (by decide +kernel))) (by decide +kernel)
theorem kw_101 : (Jvm.Cond.instanceMethod ({ cls := "FareLimits", name := "<init>", desc := "()V" } : Jvm.MethodName)) ∈ lw_all := lw_in (lw_s1 (List.mem_of_getElem? (i := 32) (by decide +kernel))) (by decide +kernel)
theorem kw_102 : (Jvm.Cond.code ({ cls := "FareLimits", name := "<init>", desc := "()V" } : Jvm.MethodName) prog_1_method_1_code (2 : Nat) (Option.none : Option Jvm.ClassFile.FieldType)) ∈ lw_all := lw_in (lw_s1 (List.mem_of_getElem? (i := 33) (by decide +kernel))) (by decide +kernel)
theorem kw_103 : (Jvm.Cond.methodLink "FareLimits" (3 : Nat) ({ cls := "java/lang/Object", name := "<init>", desc := "()V" } : Jvm.MethodName)) ∈ lw_all := lw_in (lw_s1 (List.mem_of_getElem? (i := 34) (by decide +kernel))) (by decide +kernel)
theorem kw_104 : (Jvm.Cond.instanceMethod ({ cls := "java/lang/Object", name := "<init>", desc := "()V" } : Jvm.MethodName)) ∈ lw_all := lw_in (lw_s1 (List.mem_of_getElem? (i := 35) (by decide +kernel))) (by decide +kernel)
theorem kw_105 : (Jvm.Cond.code ({ cls := "java/lang/Object", name := "<init>", desc := "()V" } : Jvm.MethodName) object_method_1_code (1 : Nat) (Option.none : Option Jvm.ClassFile.FieldType)) ∈ lw_all := lw_in (lw_s1 (List.mem_of_getElem? (i := 36) (by decide +kernel))) (by decide +kernel)
theorem kw_106 : (Jvm.Cond.classLink "FareLimits" (9 : Nat) "FareLimits$Plan") ∈ lw_all := lw_in (lw_s1 (List.mem_of_getElem? (i := 37) (by decide +kernel))) (by decide +kernel)
theorem kw_107 : (Jvm.Cond.instantiable "FareLimits$Plan" (5 : Nat)) ∈ lw_all := lw_in (lw_s1 (List.mem_of_getElem? (i := 38) (by decide +kernel))) (by decide +kernel)
theorem kw_108 : (Jvm.Cond.methodLink "FareLimits" (11 : Nat) ({ cls := "FareLimits$Plan", name := "<init>", desc := "()V" } : Jvm.MethodName)) ∈ lw_all := lw_in (lw_s1 (List.mem_of_getElem? (i := 39) (by decide +kernel))) (by decide +kernel)
theorem kw_109 : (Jvm.Cond.instanceMethod ({ cls := "FareLimits$Plan", name := "<init>", desc := "()V" } : Jvm.MethodName)) ∈ lw_all := lw_in (lw_s1 (List.mem_of_getElem? (i := 40) (by decide +kernel))) (by decide +kernel)
theorem kw_110 : (Jvm.Cond.code ({ cls := "FareLimits$Plan", name := "<init>", desc := "()V" } : Jvm.MethodName) prog_7_method_1_code (2 : Nat) (Option.none : Option Jvm.ClassFile.FieldType)) ∈ lw_all := lw_in (lw_s1 (List.mem_of_getElem? (i := 41) (by decide +kernel))) (by decide +kernel)
theorem kw_111 : (Jvm.Cond.methodLink "FareLimits$Plan" (3 : Nat) ({ cls := "java/lang/Object", name := "<init>", desc := "()V" } : Jvm.MethodName)) ∈ lw_all := lw_in (lw_s1 (List.mem_of_getElem? (i := 42) (by decide +kernel))) (by decide +kernel)
theorem kw_112 : (Jvm.Cond.classLink "FareLimits$Plan" (9 : Nat) "FareLimits$Fare") ∈ lw_all := lw_in (lw_s1 (List.mem_of_getElem? (i := 43) (by decide +kernel))) (by decide +kernel)
theorem kt_113 : (Jvm.Cond.arrayOver (Jvm.ClassFile.FieldType.object "FareLimits$Fare")) ∈ lw_tbl := lw_s1 (List.mem_of_getElem? (i := 44) (by decide +kernel))
theorem kw_114 : (Jvm.Cond.classLink "FareLimits$Plan" (21 : Nat) "FareLimits$Network") ∈ lw_all := lw_in (lw_s1 (List.mem_of_getElem? (i := 45) (by decide +kernel))) (by decide +kernel)
theorem kw_115 : (Jvm.Cond.instantiable "FareLimits$Network" (4 : Nat)) ∈ lw_all := lw_in (lw_s1 (List.mem_of_getElem? (i := 46) (by decide +kernel))) (by decide +kernel)
theorem kt_116 : (Jvm.Cond.methodLinkNest "FareLimits$Plan" (23 : Nat) ({ cls := "FareLimits$Network", name := "<init>", desc := "()V" } : Jvm.MethodName) "FareLimits") ∈ lw_tbl := lw_s1 (List.mem_of_getElem? (i := 47) (by decide +kernel))
theorem kw_117 : (Jvm.Cond.instanceMethod ({ cls := "FareLimits$Network", name := "<init>", desc := "()V" } : Jvm.MethodName)) ∈ lw_all := lw_in (lw_s1 (List.mem_of_getElem? (i := 48) (by decide +kernel))) (by decide +kernel)
theorem kw_118 : (Jvm.Cond.code ({ cls := "FareLimits$Network", name := "<init>", desc := "()V" } : Jvm.MethodName) prog_6_method_1_code (1 : Nat) (Option.none : Option Jvm.ClassFile.FieldType)) ∈ lw_all := lw_in (lw_s1 (List.mem_of_getElem? (i := 49) (by decide +kernel))) (by decide +kernel)
theorem kw_119 : (Jvm.Cond.methodLink "FareLimits$Network" (3 : Nat) ({ cls := "java/lang/Object", name := "<init>", desc := "()V" } : Jvm.MethodName)) ∈ lw_all := lw_in (lw_s1 (List.mem_of_getElem? (i := 50) (by decide +kernel))) (by decide +kernel)
theorem kw_120 : (Jvm.Cond.classLink "FareLimits$Network" (18 : Nat) "FareLimits$Route") ∈ lw_all := lw_in (lw_s1 (List.mem_of_getElem? (i := 51) (by decide +kernel))) (by decide +kernel)
theorem kt_121 : (Jvm.Cond.arrayOver (Jvm.ClassFile.FieldType.object "FareLimits$Route")) ∈ lw_tbl := lw_s1 (List.mem_of_getElem? (i := 52) (by decide +kernel))
theorem kw_122 : (Jvm.Cond.fieldLink "FareLimits$Network" (9 : Nat) "FareLimits$Network" "lengths" "[I") ∈ lw_all := lw_in (lw_s1 (List.mem_of_getElem? (i := 53) (by decide +kernel))) (by decide +kernel)
theorem kw_123 : (Jvm.Cond.fieldLink "FareLimits" (206 : Nat) "FareLimits$Network" "lengths" "[I") ∈ lw_all := lw_in (lw_s1 (List.mem_of_getElem? (i := 54) (by decide +kernel))) (by decide +kernel)
theorem kw_124 : (Jvm.Cond.fieldLink "FareLimits$Network" (15 : Nat) "FareLimits$Network" "frees" "[I") ∈ lw_all := lw_in (lw_s1 (List.mem_of_getElem? (i := 55) (by decide +kernel))) (by decide +kernel)
theorem kw_125 : (Jvm.Cond.fieldLink "FareLimits" (211 : Nat) "FareLimits$Network" "frees" "[I") ∈ lw_all := lw_in (lw_s1 (List.mem_of_getElem? (i := 56) (by decide +kernel))) (by decide +kernel)
theorem kw_126 : (Jvm.Cond.fieldLink "FareLimits$Network" (20 : Nat) "FareLimits$Network" "routes" "[LFareLimits$Route;") ∈ lw_all := lw_in (lw_s1 (List.mem_of_getElem? (i := 57) (by decide +kernel))) (by decide +kernel)
theorem kw_127 : (Jvm.Cond.fieldLink "FareLimits" (252 : Nat) "FareLimits$Network" "routes" "[LFareLimits$Route;") ∈ lw_all := lw_in (lw_s1 (List.mem_of_getElem? (i := 58) (by decide +kernel))) (by decide +kernel)
theorem kw_128 : (Jvm.Cond.fieldLink "FareLimits$Network" (30 : Nat) "FareLimits$Network" "count" "I") ∈ lw_all := lw_in (lw_s1 (List.mem_of_getElem? (i := 59) (by decide +kernel))) (by decide +kernel)
theorem kw_129 : (Jvm.Cond.fieldLink "FareLimits$Tape" (81 : Nat) "FareLimits$Network" "count" "I") ∈ lw_all := lw_in (lw_s1 (List.mem_of_getElem? (i := 60) (by decide +kernel))) (by decide +kernel)
theorem kw_130 : (Jvm.Cond.fieldLink "FareLimits" (249 : Nat) "FareLimits$Network" "count" "I") ∈ lw_all := lw_in (lw_s1 (List.mem_of_getElem? (i := 61) (by decide +kernel))) (by decide +kernel)
theorem kw_131 : (Jvm.Cond.laysFinal "FareLimits$Network" "FareLimits$Network" "lengths" "[I") ∈ lw_all := lw_in (lw_s1 (List.mem_of_getElem? (i := 62) (by decide +kernel))) (by decide +kernel)
theorem kw_133 : (Jvm.Cond.laysFinal "FareLimits$Network" "FareLimits$Network" "frees" "[I") ∈ lw_all := lw_in (lw_s1 (List.mem_of_getElem? (i := 64) (by decide +kernel))) (by decide +kernel)
theorem kw_135 : (Jvm.Cond.laysFinal "FareLimits$Network" "FareLimits$Network" "routes" "[LFareLimits$Route;") ∈ lw_all := lw_in (lw_s1 (List.mem_of_getElem? (i := 66) (by decide +kernel))) (by decide +kernel)
theorem kw_137 : (Jvm.Cond.lays "FareLimits$Network" "FareLimits$Network" "count" "I") ∈ lw_all := lw_in (lw_s1 (List.mem_of_getElem? (i := 68) (by decide +kernel))) (by decide +kernel)
theorem kw_139 : (Jvm.Cond.superclass "FareLimits$Network" "java/lang/Object") ∈ lw_all := lw_in (lw_s1 (List.mem_of_getElem? (i := 70) (by decide +kernel))) (by decide +kernel)
theorem kw_140 : (Jvm.Cond.arrayClass Jvm.ClassFile.FieldType.int) ∈ lw_all := lw_in (lw_s1 (List.mem_of_getElem? (i := 71) (by decide +kernel))) (by decide +kernel)
theorem kw_141 : (Jvm.Cond.instantiable "FareLimits$Fare" (4 : Nat)) ∈ lw_all := lw_in (lw_s1 (List.mem_of_getElem? (i := 72) (by decide +kernel))) (by decide +kernel)
theorem kt_142 : (Jvm.Cond.methodLinkNest "FareLimits$Plan" (32 : Nat) ({ cls := "FareLimits$Fare", name := "<init>", desc := "()V" } : Jvm.MethodName) "FareLimits") ∈ lw_tbl := lw_s1 (List.mem_of_getElem? (i := 73) (by decide +kernel))
theorem kw_143 : (Jvm.Cond.instanceMethod ({ cls := "FareLimits$Fare", name := "<init>", desc := "()V" } : Jvm.MethodName)) ∈ lw_all := lw_in (lw_s1 (List.mem_of_getElem? (i := 74) (by decide +kernel))) (by decide +kernel)
theorem kw_144 : (Jvm.Cond.code ({ cls := "FareLimits$Fare", name := "<init>", desc := "()V" } : Jvm.MethodName) prog_4_method_1_code (1 : Nat) (Option.none : Option Jvm.ClassFile.FieldType)) ∈ lw_all := lw_in (lw_s1 (List.mem_of_getElem? (i := 75) (by decide +kernel))) (by decide +kernel)
theorem kw_145 : (Jvm.Cond.methodLink "FareLimits$Fare" (3 : Nat) ({ cls := "java/lang/Object", name := "<init>", desc := "()V" } : Jvm.MethodName)) ∈ lw_all := lw_in (lw_s1 (List.mem_of_getElem? (i := 76) (by decide +kernel))) (by decide +kernel)
theorem kw_146 : (Jvm.Cond.fieldLink "FareLimits$Fare" (9 : Nat) "FareLimits$Kind" "FARE" "LFareLimits$Kind;") ∈ lw_all := lw_in (lw_s1 (List.mem_of_getElem? (i := 77) (by decide +kernel))) (by decide +kernel)
theorem kt_147 : (Jvm.Cond.laysStatic "FareLimits$Kind" "FARE" "LFareLimits$Kind;") ∈ lw_tbl := lw_s1 (List.mem_of_getElem? (i := 78) (by decide +kernel))
theorem kw_148 : (Jvm.Cond.fieldLink "FareLimits$Fare" (15 : Nat) "FareLimits$Fare" "kind" "LFareLimits$Kind;") ∈ lw_all := lw_in (lw_s1 (List.mem_of_getElem? (i := 79) (by decide +kernel))) (by decide +kernel)
theorem kw_149 : (Jvm.Cond.fieldLink "FareLimits" (116 : Nat) "FareLimits$Fare" "kind" "LFareLimits$Kind;") ∈ lw_all := lw_in (lw_s1 (List.mem_of_getElem? (i := 80) (by decide +kernel))) (by decide +kernel)
theorem kw_150 : (Jvm.Cond.fieldLink "FareLimits$Plan" (63 : Nat) "FareLimits$Fare" "kind" "LFareLimits$Kind;") ∈ lw_all := lw_in (lw_s1 (List.mem_of_getElem? (i := 81) (by decide +kernel))) (by decide +kernel)
theorem kw_151 : (Jvm.Cond.fieldLink "FareLimits$Fare" (24 : Nat) "FareLimits$Fare" "price" "I") ∈ lw_all := lw_in (lw_s1 (List.mem_of_getElem? (i := 82) (by decide +kernel))) (by decide +kernel)
theorem kw_152 : (Jvm.Cond.fieldLink "FareLimits$Day" (55 : Nat) "FareLimits$Fare" "price" "I") ∈ lw_all := lw_in (lw_s1 (List.mem_of_getElem? (i := 83) (by decide +kernel))) (by decide +kernel)
theorem kw_153 : (Jvm.Cond.fieldLink "FareLimits" (125 : Nat) "FareLimits$Fare" "price" "I") ∈ lw_all := lw_in (lw_s1 (List.mem_of_getElem? (i := 84) (by decide +kernel))) (by decide +kernel)
theorem kw_154 : (Jvm.Cond.fieldLink "FareLimits$Plan" (52 : Nat) "FareLimits$Fare" "price" "I") ∈ lw_all := lw_in (lw_s1 (List.mem_of_getElem? (i := 85) (by decide +kernel))) (by decide +kernel)
theorem kw_155 : (Jvm.Cond.fieldLink "FareLimits$Whole" (53 : Nat) "FareLimits$Fare" "price" "I") ∈ lw_all := lw_in (lw_s1 (List.mem_of_getElem? (i := 86) (by decide +kernel))) (by decide +kernel)
theorem kw_156 : (Jvm.Cond.fieldLink "FareLimits$Chances" (63 : Nat) "FareLimits$Fare" "price" "I") ∈ lw_all := lw_in (lw_s1 (List.mem_of_getElem? (i := 87) (by decide +kernel))) (by decide +kernel)
theorem kw_157 : (Jvm.Cond.fieldLink "FareLimits$Fare" (28 : Nat) "FareLimits$Fare" "hand" "I") ∈ lw_all := lw_in (lw_s1 (List.mem_of_getElem? (i := 88) (by decide +kernel))) (by decide +kernel)
theorem kw_158 : (Jvm.Cond.fieldLink "FareLimits$Day" (69 : Nat) "FareLimits$Fare" "hand" "I") ∈ lw_all := lw_in (lw_s1 (List.mem_of_getElem? (i := 89) (by decide +kernel))) (by decide +kernel)
theorem kw_159 : (Jvm.Cond.fieldLink "FareLimits" (141 : Nat) "FareLimits$Fare" "hand" "I") ∈ lw_all := lw_in (lw_s1 (List.mem_of_getElem? (i := 90) (by decide +kernel))) (by decide +kernel)
theorem kw_160 : (Jvm.Cond.fieldLink "FareLimits$Fare" (20 : Nat) "FareLimits$Fare" "odds" "[I") ∈ lw_all := lw_in (lw_s1 (List.mem_of_getElem? (i := 91) (by decide +kernel))) (by decide +kernel)
theorem kw_161 : (Jvm.Cond.fieldLink "FareLimits$Chances" (36 : Nat) "FareLimits$Fare" "odds" "[I") ∈ lw_all := lw_in (lw_s1 (List.mem_of_getElem? (i := 92) (by decide +kernel))) (by decide +kernel)
theorem kw_162 : (Jvm.Cond.fieldLink "FareLimits" (128 : Nat) "FareLimits$Fare" "odds" "[I") ∈ lw_all := lw_in (lw_s1 (List.mem_of_getElem? (i := 93) (by decide +kernel))) (by decide +kernel)
theorem kw_163 : (Jvm.Cond.fieldLink "FareLimits$Plan" (49 : Nat) "FareLimits$Fare" "odds" "[I") ∈ lw_all := lw_in (lw_s1 (List.mem_of_getElem? (i := 94) (by decide +kernel))) (by decide +kernel)
theorem kw_164 : (Jvm.Cond.fieldLink "FareLimits$Worths" (67 : Nat) "FareLimits$Fare" "odds" "[I") ∈ lw_all := lw_in (lw_s1 (List.mem_of_getElem? (i := 95) (by decide +kernel))) (by decide +kernel)
theorem kw_165 : (Jvm.Cond.fieldLink "FareLimits$Day" (94 : Nat) "FareLimits$Fare" "odds" "[I") ∈ lw_all := lw_in (lw_s1 (List.mem_of_getElem? (i := 96) (by decide +kernel))) (by decide +kernel)
theorem kw_166 : (Jvm.Cond.fieldLink "FareLimits$Whole" (58 : Nat) "FareLimits$Fare" "odds" "[I") ∈ lw_all := lw_in (lw_s1 (List.mem_of_getElem? (i := 97) (by decide +kernel))) (by decide +kernel)
theorem kw_167 : (Jvm.Cond.lays "FareLimits$Fare" "FareLimits$Fare" "kind" "LFareLimits$Kind;") ∈ lw_all := lw_in (lw_s1 (List.mem_of_getElem? (i := 98) (by decide +kernel))) (by decide +kernel)
theorem kw_169 : (Jvm.Cond.lays "FareLimits$Fare" "FareLimits$Fare" "price" "I") ∈ lw_all := lw_in (lw_s1 (List.mem_of_getElem? (i := 100) (by decide +kernel))) (by decide +kernel)
theorem kw_171 : (Jvm.Cond.lays "FareLimits$Fare" "FareLimits$Fare" "hand" "I") ∈ lw_all := lw_in (lw_s1 (List.mem_of_getElem? (i := 102) (by decide +kernel))) (by decide +kernel)
theorem kw_173 : (Jvm.Cond.laysFinal "FareLimits$Fare" "FareLimits$Fare" "odds" "[I") ∈ lw_all := lw_in (lw_s1 (List.mem_of_getElem? (i := 104) (by decide +kernel))) (by decide +kernel)
theorem kw_175 : (Jvm.Cond.superclass "FareLimits$Fare" "java/lang/Object") ∈ lw_all := lw_in (lw_s1 (List.mem_of_getElem? (i := 106) (by decide +kernel))) (by decide +kernel)
theorem kw_176 : (Jvm.Cond.fieldLink "FareLimits$Plan" (11 : Nat) "FareLimits$Plan" "fares" "[LFareLimits$Fare;") ∈ lw_all := lw_in (lw_s1 (List.mem_of_getElem? (i := 107) (by decide +kernel))) (by decide +kernel)
theorem kw_177 : (Jvm.Cond.fieldLink "FareLimits" (99 : Nat) "FareLimits$Plan" "fares" "[LFareLimits$Fare;") ∈ lw_all := lw_in (lw_s1 (List.mem_of_getElem? (i := 108) (by decide +kernel))) (by decide +kernel)
theorem kw_178 : (Jvm.Cond.fieldLink "FareLimits$Chances" (32 : Nat) "FareLimits$Plan" "fares" "[LFareLimits$Fare;") ∈ lw_all := lw_in (lw_s1 (List.mem_of_getElem? (i := 109) (by decide +kernel))) (by decide +kernel)
theorem kw_179 : (Jvm.Cond.fieldLink "FareLimits$Day" (51 : Nat) "FareLimits$Plan" "fares" "[LFareLimits$Fare;") ∈ lw_all := lw_in (lw_s1 (List.mem_of_getElem? (i := 110) (by decide +kernel))) (by decide +kernel)
theorem kw_180 : (Jvm.Cond.fieldLink "FareLimits$Worths" (63 : Nat) "FareLimits$Plan" "fares" "[LFareLimits$Fare;") ∈ lw_all := lw_in (lw_s1 (List.mem_of_getElem? (i := 111) (by decide +kernel))) (by decide +kernel)
theorem kw_181 : (Jvm.Cond.fieldLink "FareLimits$Whole" (49 : Nat) "FareLimits$Plan" "fares" "[LFareLimits$Fare;") ∈ lw_all := lw_in (lw_s1 (List.mem_of_getElem? (i := 112) (by decide +kernel))) (by decide +kernel)
theorem kw_182 : (Jvm.Cond.fieldLink "FareLimits$Plan" (37 : Nat) "FareLimits$Plan" "fareCount" "I") ∈ lw_all := lw_in (lw_s1 (List.mem_of_getElem? (i := 113) (by decide +kernel))) (by decide +kernel)
theorem kw_183 : (Jvm.Cond.fieldLink "FareLimits" (95 : Nat) "FareLimits$Plan" "fareCount" "I") ∈ lw_all := lw_in (lw_s1 (List.mem_of_getElem? (i := 114) (by decide +kernel))) (by decide +kernel)
theorem kw_184 : (Jvm.Cond.fieldLink "FareLimits$Worths" (44 : Nat) "FareLimits$Plan" "fareCount" "I") ∈ lw_all := lw_in (lw_s1 (List.mem_of_getElem? (i := 115) (by decide +kernel))) (by decide +kernel)
theorem kw_185 : (Jvm.Cond.fieldLink "FareLimits$Day" (91 : Nat) "FareLimits$Plan" "fareCount" "I") ∈ lw_all := lw_in (lw_s1 (List.mem_of_getElem? (i := 116) (by decide +kernel))) (by decide +kernel)
theorem kw_186 : (Jvm.Cond.fieldLink "FareLimits$Whole" (43 : Nat) "FareLimits$Plan" "fareCount" "I") ∈ lw_all := lw_in (lw_s1 (List.mem_of_getElem? (i := 117) (by decide +kernel))) (by decide +kernel)
theorem kw_187 : (Jvm.Cond.fieldLink "FareLimits$Plan" (17 : Nat) "FareLimits$Plan" "rules" "[I") ∈ lw_all := lw_in (lw_s1 (List.mem_of_getElem? (i := 118) (by decide +kernel))) (by decide +kernel)
theorem kw_188 : (Jvm.Cond.fieldLink "FareLimits$Day" (26 : Nat) "FareLimits$Plan" "rules" "[I") ∈ lw_all := lw_in (lw_s1 (List.mem_of_getElem? (i := 119) (by decide +kernel))) (by decide +kernel)
theorem kw_189 : (Jvm.Cond.fieldLink "FareLimits$Worths" (51 : Nat) "FareLimits$Plan" "rules" "[I") ∈ lw_all := lw_in (lw_s1 (List.mem_of_getElem? (i := 120) (by decide +kernel))) (by decide +kernel)
theorem kw_190 : (Jvm.Cond.fieldLink "FareLimits" (138 : Nat) "FareLimits$Plan" "rules" "[I") ∈ lw_all := lw_in (lw_s1 (List.mem_of_getElem? (i := 121) (by decide +kernel))) (by decide +kernel)
theorem kw_191 : (Jvm.Cond.fieldLink "FareLimits$Chances" (54 : Nat) "FareLimits$Plan" "rules" "[I") ∈ lw_all := lw_in (lw_s1 (List.mem_of_getElem? (i := 122) (by decide +kernel))) (by decide +kernel)
theorem kw_192 : (Jvm.Cond.fieldLink "FareLimits$Plan" (24 : Nat) "FareLimits$Plan" "network" "LFareLimits$Network;") ∈ lw_all := lw_in (lw_s1 (List.mem_of_getElem? (i := 123) (by decide +kernel))) (by decide +kernel)
theorem kw_193 : (Jvm.Cond.fieldLink "FareLimits" (202 : Nat) "FareLimits$Plan" "network" "LFareLimits$Network;") ∈ lw_all := lw_in (lw_s1 (List.mem_of_getElem? (i := 124) (by decide +kernel))) (by decide +kernel)
theorem kw_194 : (Jvm.Cond.fieldLink "FareLimits$Plan" (28 : Nat) "FareLimits$Plan" "seed" "I") ∈ lw_all := lw_in (lw_s1 (List.mem_of_getElem? (i := 125) (by decide +kernel))) (by decide +kernel)
theorem kw_195 : (Jvm.Cond.fieldLink "FareLimits$Day" (75 : Nat) "FareLimits$Plan" "seed" "I") ∈ lw_all := lw_in (lw_s1 (List.mem_of_getElem? (i := 126) (by decide +kernel))) (by decide +kernel)
theorem kw_196 : (Jvm.Cond.fieldLink "FareLimits" (328 : Nat) "FareLimits$Plan" "seed" "I") ∈ lw_all := lw_in (lw_s1 (List.mem_of_getElem? (i := 127) (by decide +kernel))) (by decide +kernel)
theorem kw_197 : (Jvm.Cond.laysFinal "FareLimits$Plan" "FareLimits$Plan" "fares" "[LFareLimits$Fare;") ∈ lw_all := lw_in (lw_s1 (List.mem_of_getElem? (i := 128) (by decide +kernel))) (by decide +kernel)
theorem kw_199 : (Jvm.Cond.lays "FareLimits$Plan" "FareLimits$Plan" "fareCount" "I") ∈ lw_all := lw_in (lw_s1 (List.mem_of_getElem? (i := 130) (by decide +kernel))) (by decide +kernel)
theorem kw_201 : (Jvm.Cond.laysFinal "FareLimits$Plan" "FareLimits$Plan" "rules" "[I") ∈ lw_all := lw_in (lw_s1 (List.mem_of_getElem? (i := 132) (by decide +kernel))) (by decide +kernel)
theorem kw_203 : (Jvm.Cond.laysFinal "FareLimits$Plan" "FareLimits$Plan" "network" "LFareLimits$Network;") ∈ lw_all := lw_in (lw_s1 (List.mem_of_getElem? (i := 134) (by decide +kernel))) (by decide +kernel)
theorem kw_205 : (Jvm.Cond.lays "FareLimits$Plan" "FareLimits$Plan" "seed" "I") ∈ lw_all := lw_in (lw_s1 (List.mem_of_getElem? (i := 136) (by decide +kernel))) (by decide +kernel)
theorem kw_207 : (Jvm.Cond.superclass "FareLimits$Plan" "java/lang/Object") ∈ lw_all := lw_in (lw_s1 (List.mem_of_getElem? (i := 138) (by decide +kernel))) (by decide +kernel)
theorem kw_208 : (Jvm.Cond.classLink "FareLimits" (19 : Nat) "FareLimits$Worths") ∈ lw_all := lw_in (lw_s1 (List.mem_of_getElem? (i := 139) (by decide +kernel))) (by decide +kernel)
theorem kw_209 : (Jvm.Cond.instantiable "FareLimits$Worths" (4 : Nat)) ∈ lw_all := lw_in (lw_s1 (List.mem_of_getElem? (i := 140) (by decide +kernel))) (by decide +kernel)
theorem kw_210 : (Jvm.Cond.methodLink "FareLimits" (21 : Nat) ({ cls := "FareLimits$Worths", name := "<init>", desc := "(LFareLimits$Plan;)V" } : Jvm.MethodName)) ∈ lw_all := lw_in (lw_s1 (List.mem_of_getElem? (i := 141) (by decide +kernel))) (by decide +kernel)
theorem kw_211 : (Jvm.Cond.instanceMethod ({ cls := "FareLimits$Worths", name := "<init>", desc := "(LFareLimits$Plan;)V" } : Jvm.MethodName)) ∈ lw_all := lw_in (lw_s1 (List.mem_of_getElem? (i := 142) (by decide +kernel))) (by decide +kernel)
theorem kw_212 : (Jvm.Cond.code ({ cls := "FareLimits$Worths", name := "<init>", desc := "(LFareLimits$Plan;)V" } : Jvm.MethodName) prog_12_method_1_code (2 : Nat) (Option.none : Option Jvm.ClassFile.FieldType)) ∈ lw_all := lw_in (lw_s1 (List.mem_of_getElem? (i := 143) (by decide +kernel))) (by decide +kernel)
theorem kw_213 : (Jvm.Cond.methodLink "FareLimits$Worths" (3 : Nat) ({ cls := "java/lang/Object", name := "<init>", desc := "()V" } : Jvm.MethodName)) ∈ lw_all := lw_in (lw_s1 (List.mem_of_getElem? (i := 144) (by decide +kernel))) (by decide +kernel)
theorem kw_214 : (Jvm.Cond.classLink "FareLimits$Worths" (9 : Nat) "[[D") ∈ lw_all := lw_in (lw_s1 (List.mem_of_getElem? (i := 145) (by decide +kernel))) (by decide +kernel)
theorem kt_215 : (Jvm.Cond.arrayOver (Jvm.ClassFile.FieldType.array Jvm.ClassFile.FieldType.double)) ∈ lw_tbl := lw_s1 (List.mem_of_getElem? (i := 146) (by decide +kernel))
theorem kw_216 : (Jvm.Cond.fieldLink "FareLimits$Worths" (20 : Nat) "FareLimits$Worths" "plan" "LFareLimits$Plan;") ∈ lw_all := lw_in (lw_s1 (List.mem_of_getElem? (i := 147) (by decide +kernel))) (by decide +kernel)
theorem kw_217 : (Jvm.Cond.fieldLink "FareLimits$Worths" (11 : Nat) "FareLimits$Worths" "rows" "[[D") ∈ lw_all := lw_in (lw_s1 (List.mem_of_getElem? (i := 148) (by decide +kernel))) (by decide +kernel)
theorem kw_218 : (Jvm.Cond.fieldLink "FareLimits$Worths" (16 : Nat) "FareLimits$Worths" "nets" "[D") ∈ lw_all := lw_in (lw_s1 (List.mem_of_getElem? (i := 149) (by decide +kernel))) (by decide +kernel)
theorem kw_219 : (Jvm.Cond.fieldLink "FareLimits$Worths" (24 : Nat) "FareLimits$Worths" "made" "I") ∈ lw_all := lw_in (lw_s1 (List.mem_of_getElem? (i := 150) (by decide +kernel))) (by decide +kernel)
theorem kw_220 : (Jvm.Cond.laysFinal "FareLimits$Worths" "FareLimits$Worths" "plan" "LFareLimits$Plan;") ∈ lw_all := lw_in (lw_s1 (List.mem_of_getElem? (i := 151) (by decide +kernel))) (by decide +kernel)
theorem kw_222 : (Jvm.Cond.laysFinal "FareLimits$Worths" "FareLimits$Worths" "rows" "[[D") ∈ lw_all := lw_in (lw_s1 (List.mem_of_getElem? (i := 153) (by decide +kernel))) (by decide +kernel)
theorem kw_224 : (Jvm.Cond.laysFinal "FareLimits$Worths" "FareLimits$Worths" "nets" "[D") ∈ lw_all := lw_in (lw_s1 (List.mem_of_getElem? (i := 155) (by decide +kernel))) (by decide +kernel)
theorem kw_226 : (Jvm.Cond.lays "FareLimits$Worths" "FareLimits$Worths" "made" "I") ∈ lw_all := lw_in (lw_s1 (List.mem_of_getElem? (i := 157) (by decide +kernel))) (by decide +kernel)
theorem kw_228 : (Jvm.Cond.superclass "FareLimits$Worths" "java/lang/Object") ∈ lw_all := lw_in (lw_s1 (List.mem_of_getElem? (i := 159) (by decide +kernel))) (by decide +kernel)
theorem kw_229 : (Jvm.Cond.arrayClass Jvm.ClassFile.FieldType.double) ∈ lw_all := lw_in (lw_s1 (List.mem_of_getElem? (i := 160) (by decide +kernel))) (by decide +kernel)
theorem kw_230 : (Jvm.Cond.classLink "FareLimits" (28 : Nat) "FareLimits$Whole") ∈ lw_all := lw_in (lw_s1 (List.mem_of_getElem? (i := 161) (by decide +kernel))) (by decide +kernel)
theorem kw_231 : (Jvm.Cond.instantiable "FareLimits$Whole" (2 : Nat)) ∈ lw_all := lw_in (lw_s1 (List.mem_of_getElem? (i := 162) (by decide +kernel))) (by decide +kernel)
theorem kw_232 : (Jvm.Cond.methodLink "FareLimits" (30 : Nat) ({ cls := "FareLimits$Whole", name := "<init>", desc := "(LFareLimits$Plan;)V" } : Jvm.MethodName)) ∈ lw_all := lw_in (lw_s1 (List.mem_of_getElem? (i := 163) (by decide +kernel))) (by decide +kernel)
theorem kw_233 : (Jvm.Cond.instanceMethod ({ cls := "FareLimits$Whole", name := "<init>", desc := "(LFareLimits$Plan;)V" } : Jvm.MethodName)) ∈ lw_all := lw_in (lw_s1 (List.mem_of_getElem? (i := 164) (by decide +kernel))) (by decide +kernel)
theorem kw_234 : (Jvm.Cond.code ({ cls := "FareLimits$Whole", name := "<init>", desc := "(LFareLimits$Plan;)V" } : Jvm.MethodName) prog_11_method_1_code (2 : Nat) (Option.none : Option Jvm.ClassFile.FieldType)) ∈ lw_all := lw_in (lw_s1 (List.mem_of_getElem? (i := 165) (by decide +kernel))) (by decide +kernel)
theorem kw_235 : (Jvm.Cond.methodLink "FareLimits$Whole" (3 : Nat) ({ cls := "java/lang/Object", name := "<init>", desc := "()V" } : Jvm.MethodName)) ∈ lw_all := lw_in (lw_s1 (List.mem_of_getElem? (i := 166) (by decide +kernel))) (by decide +kernel)
theorem kw_236 : (Jvm.Cond.fieldLink "FareLimits$Whole" (15 : Nat) "FareLimits$Whole" "plan" "LFareLimits$Plan;") ∈ lw_all := lw_in (lw_s1 (List.mem_of_getElem? (i := 167) (by decide +kernel))) (by decide +kernel)
theorem kw_237 : (Jvm.Cond.fieldLink "FareLimits$Whole" (9 : Nat) "FareLimits$Whole" "row" "[J") ∈ lw_all := lw_in (lw_s1 (List.mem_of_getElem? (i := 168) (by decide +kernel))) (by decide +kernel)
theorem kw_238 : (Jvm.Cond.laysFinal "FareLimits$Whole" "FareLimits$Whole" "plan" "LFareLimits$Plan;") ∈ lw_all := lw_in (lw_s1 (List.mem_of_getElem? (i := 169) (by decide +kernel))) (by decide +kernel)
theorem kw_240 : (Jvm.Cond.laysFinal "FareLimits$Whole" "FareLimits$Whole" "row" "[J") ∈ lw_all := lw_in (lw_s1 (List.mem_of_getElem? (i := 171) (by decide +kernel))) (by decide +kernel)
theorem kw_242 : (Jvm.Cond.superclass "FareLimits$Whole" "java/lang/Object") ∈ lw_all := lw_in (lw_s1 (List.mem_of_getElem? (i := 173) (by decide +kernel))) (by decide +kernel)
theorem kw_243 : (Jvm.Cond.arrayClass Jvm.ClassFile.FieldType.long) ∈ lw_all := lw_in (lw_s1 (List.mem_of_getElem? (i := 174) (by decide +kernel))) (by decide +kernel)
theorem kw_244 : (Jvm.Cond.classLink "FareLimits" (35 : Nat) "FareLimits$Chances") ∈ lw_all := lw_in (lw_s1 (List.mem_of_getElem? (i := 175) (by decide +kernel))) (by decide +kernel)
theorem kw_245 : (Jvm.Cond.instantiable "FareLimits$Chances" (2 : Nat)) ∈ lw_all := lw_in (lw_s1 (List.mem_of_getElem? (i := 176) (by decide +kernel))) (by decide +kernel)
theorem kw_246 : (Jvm.Cond.methodLink "FareLimits" (37 : Nat) ({ cls := "FareLimits$Chances", name := "<init>", desc := "(LFareLimits$Plan;)V" } : Jvm.MethodName)) ∈ lw_all := lw_in (lw_s1 (List.mem_of_getElem? (i := 177) (by decide +kernel))) (by decide +kernel)
theorem kw_247 : (Jvm.Cond.instanceMethod ({ cls := "FareLimits$Chances", name := "<init>", desc := "(LFareLimits$Plan;)V" } : Jvm.MethodName)) ∈ lw_all := lw_in (lw_s1 (List.mem_of_getElem? (i := 178) (by decide +kernel))) (by decide +kernel)
theorem kw_248 : (Jvm.Cond.code ({ cls := "FareLimits$Chances", name := "<init>", desc := "(LFareLimits$Plan;)V" } : Jvm.MethodName) prog_2_method_1_code (2 : Nat) (Option.none : Option Jvm.ClassFile.FieldType)) ∈ lw_all := lw_in (lw_s1 (List.mem_of_getElem? (i := 179) (by decide +kernel))) (by decide +kernel)
theorem kw_249 : (Jvm.Cond.methodLink "FareLimits$Chances" (3 : Nat) ({ cls := "java/lang/Object", name := "<init>", desc := "()V" } : Jvm.MethodName)) ∈ lw_all := lw_in (lw_s1 (List.mem_of_getElem? (i := 180) (by decide +kernel))) (by decide +kernel)
theorem kw_250 : (Jvm.Cond.fieldLink "FareLimits$Chances" (15 : Nat) "FareLimits$Chances" "plan" "LFareLimits$Plan;") ∈ lw_all := lw_in (lw_s1 (List.mem_of_getElem? (i := 181) (by decide +kernel))) (by decide +kernel)
theorem kw_251 : (Jvm.Cond.fieldLink "FareLimits$Chances" (9 : Nat) "FareLimits$Chances" "row" "[D") ∈ lw_all := lw_in (lw_s1 (List.mem_of_getElem? (i := 182) (by decide +kernel))) (by decide +kernel)
theorem kw_252 : (Jvm.Cond.laysFinal "FareLimits$Chances" "FareLimits$Chances" "plan" "LFareLimits$Plan;") ∈ lw_all := lw_in (lw_s1 (List.mem_of_getElem? (i := 183) (by decide +kernel))) (by decide +kernel)
theorem kw_254 : (Jvm.Cond.laysFinal "FareLimits$Chances" "FareLimits$Chances" "row" "[D") ∈ lw_all := lw_in (lw_s1 (List.mem_of_getElem? (i := 185) (by decide +kernel))) (by decide +kernel)
theorem kw_256 : (Jvm.Cond.superclass "FareLimits$Chances" "java/lang/Object") ∈ lw_all := lw_in (lw_s1 (List.mem_of_getElem? (i := 187) (by decide +kernel))) (by decide +kernel)
theorem kw_257 : (Jvm.Cond.classLink "FareLimits" (42 : Nat) "FareLimits$Tape") ∈ lw_all := lw_in (lw_s1 (List.mem_of_getElem? (i := 188) (by decide +kernel))) (by decide +kernel)
theorem kw_258 : (Jvm.Cond.instantiable "FareLimits$Tape" (9 : Nat)) ∈ lw_all := lw_in (lw_s1 (List.mem_of_getElem? (i := 189) (by decide +kernel))) (by decide +kernel)
theorem kt_259 : (Jvm.Cond.methodLinkNest "FareLimits" (44 : Nat) ({ cls := "FareLimits$Tape", name := "<init>", desc := "()V" } : Jvm.MethodName) "FareLimits") ∈ lw_tbl := lw_s1 (List.mem_of_getElem? (i := 190) (by decide +kernel))
theorem kw_260 : (Jvm.Cond.instanceMethod ({ cls := "FareLimits$Tape", name := "<init>", desc := "()V" } : Jvm.MethodName)) ∈ lw_all := lw_in (lw_s1 (List.mem_of_getElem? (i := 191) (by decide +kernel))) (by decide +kernel)
theorem kw_261 : (Jvm.Cond.code ({ cls := "FareLimits$Tape", name := "<init>", desc := "()V" } : Jvm.MethodName) prog_9_method_1_code (1 : Nat) (Option.none : Option Jvm.ClassFile.FieldType)) ∈ lw_all := lw_in (lw_s1 (List.mem_of_getElem? (i := 192) (by decide +kernel))) (by decide +kernel)
theorem kw_262 : (Jvm.Cond.methodLink "FareLimits$Tape" (3 : Nat) ({ cls := "java/lang/Object", name := "<init>", desc := "()V" } : Jvm.MethodName)) ∈ lw_all := lw_in (lw_s1 (List.mem_of_getElem? (i := 193) (by decide +kernel))) (by decide +kernel)
theorem kw_263 : (Jvm.Cond.classLink "FareLimits$Tape" (15 : Nat) "FareLimits$Route") ∈ lw_all := lw_in (lw_s1 (List.mem_of_getElem? (i := 194) (by decide +kernel))) (by decide +kernel)
theorem kw_264 : (Jvm.Cond.fieldLink "FareLimits$Tape" (9 : Nat) "FareLimits$Tape" "bytes" "[I") ∈ lw_all := lw_in (lw_s1 (List.mem_of_getElem? (i := 195) (by decide +kernel))) (by decide +kernel)
theorem kw_265 : (Jvm.Cond.fieldLink "FareLimits$Tape" (21 : Nat) "FareLimits$Tape" "size" "I") ∈ lw_all := lw_in (lw_s1 (List.mem_of_getElem? (i := 196) (by decide +kernel))) (by decide +kernel)
theorem kw_266 : (Jvm.Cond.fieldLink "FareLimits" (217 : Nat) "FareLimits$Tape" "size" "I") ∈ lw_all := lw_in (lw_s1 (List.mem_of_getElem? (i := 197) (by decide +kernel))) (by decide +kernel)
theorem kw_267 : (Jvm.Cond.fieldLink "FareLimits$Tape" (17 : Nat) "FareLimits$Tape" "read" "[LFareLimits$Route;") ∈ lw_all := lw_in (lw_s1 (List.mem_of_getElem? (i := 198) (by decide +kernel))) (by decide +kernel)
theorem kw_268 : (Jvm.Cond.fieldLink "FareLimits" (230 : Nat) "FareLimits$Tape" "read" "[LFareLimits$Route;") ∈ lw_all := lw_in (lw_s1 (List.mem_of_getElem? (i := 199) (by decide +kernel))) (by decide +kernel)
theorem kw_269 : (Jvm.Cond.fieldLink "FareLimits$Tape" (43 : Nat) "FareLimits$Tape" "readCount" "I") ∈ lw_all := lw_in (lw_s1 (List.mem_of_getElem? (i := 200) (by decide +kernel))) (by decide +kernel)
theorem kw_270 : (Jvm.Cond.fieldLink "FareLimits" (227 : Nat) "FareLimits$Tape" "readCount" "I") ∈ lw_all := lw_in (lw_s1 (List.mem_of_getElem? (i := 201) (by decide +kernel))) (by decide +kernel)
theorem kw_271 : (Jvm.Cond.fieldLink "FareLimits$Tape" (40 : Nat) "FareLimits$Tape" "at" "I") ∈ lw_all := lw_in (lw_s1 (List.mem_of_getElem? (i := 202) (by decide +kernel))) (by decide +kernel)
theorem kw_272 : (Jvm.Cond.fieldLink "FareLimits$Tape" (50 : Nat) "FareLimits$Tape" "name" "I") ∈ lw_all := lw_in (lw_s1 (List.mem_of_getElem? (i := 203) (by decide +kernel))) (by decide +kernel)
theorem kw_273 : (Jvm.Cond.fieldLink "FareLimits$Tape" (53 : Nat) "FareLimits$Tape" "legs" "I") ∈ lw_all := lw_in (lw_s1 (List.mem_of_getElem? (i := 204) (by decide +kernel))) (by decide +kernel)
theorem kw_274 : (Jvm.Cond.fieldLink "FareLimits$Tape" (56 : Nat) "FareLimits$Tape" "price" "I") ∈ lw_all := lw_in (lw_s1 (List.mem_of_getElem? (i := 205) (by decide +kernel))) (by decide +kernel)
theorem kw_275 : (Jvm.Cond.fieldLink "FareLimits$Tape" (59 : Nat) "FareLimits$Tape" "wanted" "I") ∈ lw_all := lw_in (lw_s1 (List.mem_of_getElem? (i := 206) (by decide +kernel))) (by decide +kernel)
theorem kw_276 : (Jvm.Cond.laysFinal "FareLimits$Tape" "FareLimits$Tape" "bytes" "[I") ∈ lw_all := lw_in (lw_s1 (List.mem_of_getElem? (i := 207) (by decide +kernel))) (by decide +kernel)
theorem kw_278 : (Jvm.Cond.lays "FareLimits$Tape" "FareLimits$Tape" "size" "I") ∈ lw_all := lw_in (lw_s1 (List.mem_of_getElem? (i := 209) (by decide +kernel))) (by decide +kernel)
theorem kw_280 : (Jvm.Cond.laysFinal "FareLimits$Tape" "FareLimits$Tape" "read" "[LFareLimits$Route;") ∈ lw_all := lw_in (lw_s1 (List.mem_of_getElem? (i := 211) (by decide +kernel))) (by decide +kernel)
theorem kw_282 : (Jvm.Cond.lays "FareLimits$Tape" "FareLimits$Tape" "readCount" "I") ∈ lw_all := lw_in (lw_s1 (List.mem_of_getElem? (i := 213) (by decide +kernel))) (by decide +kernel)
theorem kw_284 : (Jvm.Cond.lays "FareLimits$Tape" "FareLimits$Tape" "at" "I") ∈ lw_all := lw_in (lw_s1 (List.mem_of_getElem? (i := 215) (by decide +kernel))) (by decide +kernel)
theorem kw_286 : (Jvm.Cond.lays "FareLimits$Tape" "FareLimits$Tape" "name" "I") ∈ lw_all := lw_in (lw_s1 (List.mem_of_getElem? (i := 217) (by decide +kernel))) (by decide +kernel)
theorem kw_288 : (Jvm.Cond.lays "FareLimits$Tape" "FareLimits$Tape" "legs" "I") ∈ lw_all := lw_in (lw_s1 (List.mem_of_getElem? (i := 219) (by decide +kernel))) (by decide +kernel)
theorem kw_290 : (Jvm.Cond.lays "FareLimits$Tape" "FareLimits$Tape" "price" "I") ∈ lw_all := lw_in (lw_s1 (List.mem_of_getElem? (i := 221) (by decide +kernel))) (by decide +kernel)
theorem kw_292 : (Jvm.Cond.lays "FareLimits$Tape" "FareLimits$Tape" "wanted" "I") ∈ lw_all := lw_in (lw_s1 (List.mem_of_getElem? (i := 223) (by decide +kernel))) (by decide +kernel)
theorem kw_294 : (Jvm.Cond.superclass "FareLimits$Tape" "java/lang/Object") ∈ lw_all := lw_in (lw_s1 (List.mem_of_getElem? (i := 225) (by decide +kernel))) (by decide +kernel)
theorem kw_295 : (Jvm.Cond.classLink "FareLimits" (49 : Nat) "FareLimits$Day") ∈ lw_all := lw_in (lw_s1 (List.mem_of_getElem? (i := 226) (by decide +kernel))) (by decide +kernel)
theorem kw_296 : (Jvm.Cond.instantiable "FareLimits$Day" (9 : Nat)) ∈ lw_all := lw_in (lw_s1 (List.mem_of_getElem? (i := 227) (by decide +kernel))) (by decide +kernel)
theorem kw_297 : (Jvm.Cond.methodLink "FareLimits" (51 : Nat) ({ cls := "FareLimits$Day", name := "<init>", desc := "(LFareLimits$Plan;LFareLimits$Worths;)V" } : Jvm.MethodName)) ∈ lw_all := lw_in (lw_s1 (List.mem_of_getElem? (i := 228) (by decide +kernel))) (by decide +kernel)
theorem kw_298 : (Jvm.Cond.instanceMethod ({ cls := "FareLimits$Day", name := "<init>", desc := "(LFareLimits$Plan;LFareLimits$Worths;)V" } : Jvm.MethodName)) ∈ lw_all := lw_in (lw_s1 (List.mem_of_getElem? (i := 229) (by decide +kernel))) (by decide +kernel)
theorem kw_299 : (Jvm.Cond.code ({ cls := "FareLimits$Day", name := "<init>", desc := "(LFareLimits$Plan;LFareLimits$Worths;)V" } : Jvm.MethodName) prog_3_method_1_code (3 : Nat) (Option.none : Option Jvm.ClassFile.FieldType)) ∈ lw_all := lw_in (lw_s1 (List.mem_of_getElem? (i := 230) (by decide +kernel))) (by decide +kernel)
theorem kw_300 : (Jvm.Cond.methodLink "FareLimits$Day" (3 : Nat) ({ cls := "java/lang/Object", name := "<init>", desc := "()V" } : Jvm.MethodName)) ∈ lw_all := lw_in (lw_s1 (List.mem_of_getElem? (i := 231) (by decide +kernel))) (by decide +kernel)
theorem kw_301 : (Jvm.Cond.fieldLink "FareLimits$Day" (18 : Nat) "FareLimits$Day" "plan" "LFareLimits$Plan;") ∈ lw_all := lw_in (lw_s1 (List.mem_of_getElem? (i := 232) (by decide +kernel))) (by decide +kernel)
theorem kw_302 : (Jvm.Cond.fieldLink "FareLimits$Day" (22 : Nat) "FareLimits$Day" "worths" "LFareLimits$Worths;") ∈ lw_all := lw_in (lw_s1 (List.mem_of_getElem? (i := 233) (by decide +kernel))) (by decide +kernel)
theorem kw_303 : (Jvm.Cond.fieldLink "FareLimits$Day" (9 : Nat) "FareLimits$Day" "pricesAsked" "[I") ∈ lw_all := lw_in (lw_s1 (List.mem_of_getElem? (i := 234) (by decide +kernel))) (by decide +kernel)
theorem kw_304 : (Jvm.Cond.fieldLink "FareLimits$Day" (15 : Nat) "FareLimits$Day" "pricesHad" "[I") ∈ lw_all := lw_in (lw_s1 (List.mem_of_getElem? (i := 235) (by decide +kernel))) (by decide +kernel)
theorem kw_305 : (Jvm.Cond.fieldLink "FareLimits$Day" (31 : Nat) "FareLimits$Day" "left" "I") ∈ lw_all := lw_in (lw_s1 (List.mem_of_getElem? (i := 236) (by decide +kernel))) (by decide +kernel)
theorem kw_306 : (Jvm.Cond.fieldLink "FareLimits" (312 : Nat) "FareLimits$Day" "left" "I") ∈ lw_all := lw_in (lw_s1 (List.mem_of_getElem? (i := 237) (by decide +kernel))) (by decide +kernel)
theorem kw_307 : (Jvm.Cond.fieldLink "FareLimits$Day" (35 : Nat) "FareLimits$Day" "asked" "I") ∈ lw_all := lw_in (lw_s1 (List.mem_of_getElem? (i := 238) (by decide +kernel))) (by decide +kernel)
theorem kw_308 : (Jvm.Cond.fieldLink "FareLimits" (325 : Nat) "FareLimits$Day" "asked" "I") ∈ lw_all := lw_in (lw_s1 (List.mem_of_getElem? (i := 239) (by decide +kernel))) (by decide +kernel)
theorem kw_309 : (Jvm.Cond.fieldLink "FareLimits$Day" (38 : Nat) "FareLimits$Day" "count" "I") ∈ lw_all := lw_in (lw_s2 (List.mem_of_getElem? (i := 0) (by decide +kernel))) (by decide +kernel)
theorem kw_310 : (Jvm.Cond.fieldLink "FareLimits" (311 : Nat) "FareLimits$Day" "count" "I") ∈ lw_all := lw_in (lw_s2 (List.mem_of_getElem? (i := 1) (by decide +kernel))) (by decide +kernel)
theorem kw_311 : (Jvm.Cond.fieldLink "FareLimits$Day" (41 : Nat) "FareLimits$Day" "prices" "I") ∈ lw_all := lw_in (lw_s2 (List.mem_of_getElem? (i := 2) (by decide +kernel))) (by decide +kernel)
theorem kw_312 : (Jvm.Cond.fieldLink "FareLimits" (308 : Nat) "FareLimits$Day" "prices" "I") ∈ lw_all := lw_in (lw_s2 (List.mem_of_getElem? (i := 3) (by decide +kernel))) (by decide +kernel)
theorem kw_313 : (Jvm.Cond.fieldLink "FareLimits$Day" (44 : Nat) "FareLimits$Day" "places" "I") ∈ lw_all := lw_in (lw_s2 (List.mem_of_getElem? (i := 4) (by decide +kernel))) (by decide +kernel)
theorem kw_314 : (Jvm.Cond.fieldLink "FareLimits" (315 : Nat) "FareLimits$Day" "places" "I") ∈ lw_all := lw_in (lw_s2 (List.mem_of_getElem? (i := 5) (by decide +kernel))) (by decide +kernel)
theorem kw_315 : (Jvm.Cond.laysFinal "FareLimits$Day" "FareLimits$Day" "plan" "LFareLimits$Plan;") ∈ lw_all := lw_in (lw_s2 (List.mem_of_getElem? (i := 6) (by decide +kernel))) (by decide +kernel)
theorem kw_317 : (Jvm.Cond.laysFinal "FareLimits$Day" "FareLimits$Day" "worths" "LFareLimits$Worths;") ∈ lw_all := lw_in (lw_s2 (List.mem_of_getElem? (i := 8) (by decide +kernel))) (by decide +kernel)
theorem kw_319 : (Jvm.Cond.laysFinal "FareLimits$Day" "FareLimits$Day" "pricesAsked" "[I") ∈ lw_all := lw_in (lw_s2 (List.mem_of_getElem? (i := 10) (by decide +kernel))) (by decide +kernel)
theorem kw_321 : (Jvm.Cond.laysFinal "FareLimits$Day" "FareLimits$Day" "pricesHad" "[I") ∈ lw_all := lw_in (lw_s2 (List.mem_of_getElem? (i := 12) (by decide +kernel))) (by decide +kernel)
theorem kw_323 : (Jvm.Cond.lays "FareLimits$Day" "FareLimits$Day" "left" "I") ∈ lw_all := lw_in (lw_s2 (List.mem_of_getElem? (i := 14) (by decide +kernel))) (by decide +kernel)
theorem kw_325 : (Jvm.Cond.lays "FareLimits$Day" "FareLimits$Day" "asked" "I") ∈ lw_all := lw_in (lw_s2 (List.mem_of_getElem? (i := 16) (by decide +kernel))) (by decide +kernel)
theorem kw_327 : (Jvm.Cond.lays "FareLimits$Day" "FareLimits$Day" "count" "I") ∈ lw_all := lw_in (lw_s2 (List.mem_of_getElem? (i := 18) (by decide +kernel))) (by decide +kernel)
theorem kw_329 : (Jvm.Cond.lays "FareLimits$Day" "FareLimits$Day" "prices" "I") ∈ lw_all := lw_in (lw_s2 (List.mem_of_getElem? (i := 20) (by decide +kernel))) (by decide +kernel)
theorem kw_331 : (Jvm.Cond.lays "FareLimits$Day" "FareLimits$Day" "places" "I") ∈ lw_all := lw_in (lw_s2 (List.mem_of_getElem? (i := 22) (by decide +kernel))) (by decide +kernel)
theorem kw_333 : (Jvm.Cond.superclass "FareLimits$Day" "java/lang/Object") ∈ lw_all := lw_in (lw_s2 (List.mem_of_getElem? (i := 24) (by decide +kernel))) (by decide +kernel)
theorem kw_334 : (Jvm.Cond.classLink "FareLimits" (58 : Nat) "java/lang/StringBuilder") ∈ lw_all := lw_in (lw_s2 (List.mem_of_getElem? (i := 25) (by decide +kernel))) (by decide +kernel)
theorem kw_335 : (Jvm.Cond.instantiable "java/lang/StringBuilder" (4 : Nat)) ∈ lw_all := lw_in (lw_s2 (List.mem_of_getElem? (i := 26) (by decide +kernel))) (by decide +kernel)
theorem kw_336 : (Jvm.Cond.methodLink "FareLimits" (60 : Nat) ({ cls := "java/lang/StringBuilder", name := "<init>", desc := "()V" } : Jvm.MethodName)) ∈ lw_all := lw_in (lw_s2 (List.mem_of_getElem? (i := 27) (by decide +kernel))) (by decide +kernel)
theorem kw_337 : (Jvm.Cond.instanceMethod ({ cls := "java/lang/StringBuilder", name := "<init>", desc := "()V" } : Jvm.MethodName)) ∈ lw_all := lw_in (lw_s2 (List.mem_of_getElem? (i := 28) (by decide +kernel))) (by decide +kernel)
theorem kw_338 : (Jvm.Cond.code ({ cls := "java/lang/StringBuilder", name := "<init>", desc := "()V" } : Jvm.MethodName) prog_24_method_1_code (1 : Nat) (Option.none : Option Jvm.ClassFile.FieldType)) ∈ lw_all := lw_in (lw_s2 (List.mem_of_getElem? (i := 29) (by decide +kernel))) (by decide +kernel)
theorem kw_339 : (Jvm.Cond.methodLink "java/lang/StringBuilder" (1 : Nat) ({ cls := "java/lang/AbstractStringBuilder", name := "<init>", desc := "(I)V" } : Jvm.MethodName)) ∈ lw_all := lw_in (lw_s2 (List.mem_of_getElem? (i := 30) (by decide +kernel))) (by decide +kernel)
theorem kw_340 : (Jvm.Cond.instanceMethod ({ cls := "java/lang/AbstractStringBuilder", name := "<init>", desc := "(I)V" } : Jvm.MethodName)) ∈ lw_all := lw_in (lw_s2 (List.mem_of_getElem? (i := 31) (by decide +kernel))) (by decide +kernel)
theorem kw_341 : (Jvm.Cond.code ({ cls := "java/lang/AbstractStringBuilder", name := "<init>", desc := "(I)V" } : Jvm.MethodName) prog_15_method_2_code (2 : Nat) (Option.none : Option Jvm.ClassFile.FieldType)) ∈ lw_all := lw_in (lw_s2 (List.mem_of_getElem? (i := 32) (by decide +kernel))) (by decide +kernel)
theorem kw_342 : (Jvm.Cond.methodLink "java/lang/AbstractStringBuilder" (3 : Nat) ({ cls := "java/lang/Object", name := "<init>", desc := "()V" } : Jvm.MethodName)) ∈ lw_all := lw_in (lw_s2 (List.mem_of_getElem? (i := 33) (by decide +kernel))) (by decide +kernel)
theorem kw_343 : (Jvm.Cond.fieldLink "java/lang/AbstractStringBuilder" (18 : Nat) "java/lang/String" "COMPACT_STRINGS" "Z") ∈ lw_all := lw_in (lw_s2 (List.mem_of_getElem? (i := 34) (by decide +kernel))) (by decide +kernel)
theorem kt_344 : (Jvm.Cond.laysStatic "java/lang/String" "COMPACT_STRINGS" "Z") ∈ lw_tbl := lw_s2 (List.mem_of_getElem? (i := 35) (by decide +kernel))
theorem kw_345 : (Jvm.Cond.methodLink "java/lang/AbstractStringBuilder" (26 : Nat) ({ cls := "java/lang/StringUTF16", name := "newBytesFor", desc := "(I)[B" } : Jvm.MethodName)) ∈ lw_all := lw_in (lw_s2 (List.mem_of_getElem? (i := 36) (by decide +kernel))) (by decide +kernel)
theorem kw_346 : (Jvm.Cond.static ({ cls := "java/lang/StringUTF16", name := "newBytesFor", desc := "(I)[B" } : Jvm.MethodName)) ∈ lw_all := lw_in (lw_s2 (List.mem_of_getElem? (i := 37) (by decide +kernel))) (by decide +kernel)
theorem kw_347 : (Jvm.Cond.code ({ cls := "java/lang/StringUTF16", name := "newBytesFor", desc := "(I)[B" } : Jvm.MethodName) prog_26_method_2_code (1 : Nat) (Option.some (Jvm.ClassFile.FieldType.array Jvm.ClassFile.FieldType.byte))) ∈ lw_all := lw_in (lw_s2 (List.mem_of_getElem? (i := 38) (by decide +kernel))) (by decide +kernel)
theorem kw_348 : (Jvm.Cond.methodLink "java/lang/StringUTF16" (11 : Nat) ({ cls := "java/lang/StringUTF16", name := "newBytesLength", desc := "(I)I" } : Jvm.MethodName)) ∈ lw_all := lw_in (lw_s2 (List.mem_of_getElem? (i := 39) (by decide +kernel))) (by decide +kernel)
theorem kw_349 : (Jvm.Cond.static ({ cls := "java/lang/StringUTF16", name := "newBytesLength", desc := "(I)I" } : Jvm.MethodName)) ∈ lw_all := lw_in (lw_s2 (List.mem_of_getElem? (i := 40) (by decide +kernel))) (by decide +kernel)
theorem kw_350 : (Jvm.Cond.code ({ cls := "java/lang/StringUTF16", name := "newBytesLength", desc := "(I)I" } : Jvm.MethodName) prog_26_method_3_code (1 : Nat) (Option.some Jvm.ClassFile.FieldType.int)) ∈ lw_all := lw_in (lw_s2 (List.mem_of_getElem? (i := 41) (by decide +kernel))) (by decide +kernel)
theorem kw_351 : (Jvm.Cond.constant "java/lang/StringUTF16" (20 : Nat) (1073741823 : Int32)) ∈ lw_all := lw_in (lw_s2 (List.mem_of_getElem? (i := 42) (by decide +kernel))) (by decide +kernel)
theorem kw_352 : (Jvm.Cond.fieldLink "java/lang/AbstractStringBuilder" (15 : Nat) "java/lang/AbstractStringBuilder" "value" "[B") ∈ lw_all := lw_in (lw_s2 (List.mem_of_getElem? (i := 43) (by decide +kernel))) (by decide +kernel)
theorem kw_353 : (Jvm.Cond.fieldLink "java/lang/AbstractStringBuilder" (22 : Nat) "java/lang/AbstractStringBuilder" "coder" "B") ∈ lw_all := lw_in (lw_s2 (List.mem_of_getElem? (i := 44) (by decide +kernel))) (by decide +kernel)
theorem kw_354 : (Jvm.Cond.fieldLink "java/lang/AbstractStringBuilder" (73 : Nat) "java/lang/AbstractStringBuilder" "maybeLatin1" "Z") ∈ lw_all := lw_in (lw_s2 (List.mem_of_getElem? (i := 45) (by decide +kernel))) (by decide +kernel)
theorem kw_355 : (Jvm.Cond.fieldLink "java/lang/AbstractStringBuilder" (79 : Nat) "java/lang/AbstractStringBuilder" "count" "I") ∈ lw_all := lw_in (lw_s2 (List.mem_of_getElem? (i := 46) (by decide +kernel))) (by decide +kernel)
theorem kw_356 : (Jvm.Cond.lays "java/lang/StringBuilder" "java/lang/AbstractStringBuilder" "value" "[B") ∈ lw_all := lw_in (lw_s2 (List.mem_of_getElem? (i := 47) (by decide +kernel))) (by decide +kernel)
theorem kw_358 : (Jvm.Cond.lays "java/lang/StringBuilder" "java/lang/AbstractStringBuilder" "coder" "B") ∈ lw_all := lw_in (lw_s2 (List.mem_of_getElem? (i := 49) (by decide +kernel))) (by decide +kernel)
theorem kw_360 : (Jvm.Cond.lays "java/lang/StringBuilder" "java/lang/AbstractStringBuilder" "maybeLatin1" "Z") ∈ lw_all := lw_in (lw_s2 (List.mem_of_getElem? (i := 51) (by decide +kernel))) (by decide +kernel)
theorem kw_362 : (Jvm.Cond.lays "java/lang/StringBuilder" "java/lang/AbstractStringBuilder" "count" "I") ∈ lw_all := lw_in (lw_s2 (List.mem_of_getElem? (i := 53) (by decide +kernel))) (by decide +kernel)
theorem kw_364 : (Jvm.Cond.superclass "java/lang/StringBuilder" "java/lang/AbstractStringBuilder") ∈ lw_all := lw_in (lw_s2 (List.mem_of_getElem? (i := 55) (by decide +kernel))) (by decide +kernel)
theorem kw_365 : (Jvm.Cond.arrayClass Jvm.ClassFile.FieldType.byte) ∈ lw_all := lw_in (lw_s2 (List.mem_of_getElem? (i := 56) (by decide +kernel))) (by decide +kernel)
theorem kw_366 : (Jvm.Cond.classLink "FareLimits" (65 : Nat) "FareLimits$Tray") ∈ lw_all := lw_in (lw_s2 (List.mem_of_getElem? (i := 57) (by decide +kernel))) (by decide +kernel)
theorem kt_367 : (Jvm.Cond.arrayOver (Jvm.ClassFile.FieldType.object "FareLimits$Tray")) ∈ lw_tbl := lw_s2 (List.mem_of_getElem? (i := 58) (by decide +kernel))
theorem kw_368 : (Jvm.Cond.instantiable "FareLimits$Tray" (3 : Nat)) ∈ lw_all := lw_in (lw_s2 (List.mem_of_getElem? (i := 59) (by decide +kernel))) (by decide +kernel)
theorem kt_369 : (Jvm.Cond.methodLinkNest "FareLimits" (71 : Nat) ({ cls := "FareLimits$Tray", name := "<init>", desc := "()V" } : Jvm.MethodName) "FareLimits") ∈ lw_tbl := lw_s2 (List.mem_of_getElem? (i := 60) (by decide +kernel))
theorem kw_370 : (Jvm.Cond.instanceMethod ({ cls := "FareLimits$Tray", name := "<init>", desc := "()V" } : Jvm.MethodName)) ∈ lw_all := lw_in (lw_s2 (List.mem_of_getElem? (i := 61) (by decide +kernel))) (by decide +kernel)
theorem kw_371 : (Jvm.Cond.code ({ cls := "FareLimits$Tray", name := "<init>", desc := "()V" } : Jvm.MethodName) prog_10_method_1_code (1 : Nat) (Option.none : Option Jvm.ClassFile.FieldType)) ∈ lw_all := lw_in (lw_s2 (List.mem_of_getElem? (i := 62) (by decide +kernel))) (by decide +kernel)
theorem kw_372 : (Jvm.Cond.methodLink "FareLimits$Tray" (3 : Nat) ({ cls := "java/lang/Object", name := "<init>", desc := "()V" } : Jvm.MethodName)) ∈ lw_all := lw_in (lw_s2 (List.mem_of_getElem? (i := 63) (by decide +kernel))) (by decide +kernel)
theorem kw_373 : (Jvm.Cond.fieldLink "FareLimits$Tray" (9 : Nat) "FareLimits$Kind" "FARE" "LFareLimits$Kind;") ∈ lw_all := lw_in (lw_s2 (List.mem_of_getElem? (i := 64) (by decide +kernel))) (by decide +kernel)
theorem kw_374 : (Jvm.Cond.fieldLink "FareLimits$Tray" (15 : Nat) "FareLimits$Tray" "kind" "LFareLimits$Kind;") ∈ lw_all := lw_in (lw_s2 (List.mem_of_getElem? (i := 65) (by decide +kernel))) (by decide +kernel)
theorem kw_375 : (Jvm.Cond.fieldLink "FareLimits" (333 : Nat) "FareLimits$Tray" "kind" "LFareLimits$Kind;") ∈ lw_all := lw_in (lw_s2 (List.mem_of_getElem? (i := 66) (by decide +kernel))) (by decide +kernel)
theorem kw_376 : (Jvm.Cond.fieldLink "FareLimits$Tray" (20 : Nat) "FareLimits$Tray" "size" "I") ∈ lw_all := lw_in (lw_s2 (List.mem_of_getElem? (i := 67) (by decide +kernel))) (by decide +kernel)
theorem kw_377 : (Jvm.Cond.fieldLink "FareLimits" (332 : Nat) "FareLimits$Tray" "size" "I") ∈ lw_all := lw_in (lw_s2 (List.mem_of_getElem? (i := 68) (by decide +kernel))) (by decide +kernel)
theorem kw_378 : (Jvm.Cond.fieldLink "FareLimits$Tray" (24 : Nat) "FareLimits$Tray" "places" "[I") ∈ lw_all := lw_in (lw_s2 (List.mem_of_getElem? (i := 69) (by decide +kernel))) (by decide +kernel)
theorem kw_379 : (Jvm.Cond.fieldLink "FareLimits" (338 : Nat) "FareLimits$Tray" "places" "[I") ∈ lw_all := lw_in (lw_s2 (List.mem_of_getElem? (i := 70) (by decide +kernel))) (by decide +kernel)
theorem kw_380 : (Jvm.Cond.lays "FareLimits$Tray" "FareLimits$Tray" "kind" "LFareLimits$Kind;") ∈ lw_all := lw_in (lw_s2 (List.mem_of_getElem? (i := 71) (by decide +kernel))) (by decide +kernel)
theorem kw_382 : (Jvm.Cond.lays "FareLimits$Tray" "FareLimits$Tray" "size" "I") ∈ lw_all := lw_in (lw_s2 (List.mem_of_getElem? (i := 73) (by decide +kernel))) (by decide +kernel)
theorem kw_384 : (Jvm.Cond.laysFinal "FareLimits$Tray" "FareLimits$Tray" "places" "[I") ∈ lw_all := lw_in (lw_s2 (List.mem_of_getElem? (i := 75) (by decide +kernel))) (by decide +kernel)
theorem kw_386 : (Jvm.Cond.superclass "FareLimits$Tray" "java/lang/Object") ∈ lw_all := lw_in (lw_s2 (List.mem_of_getElem? (i := 77) (by decide +kernel))) (by decide +kernel)
theorem kw_387 : (Jvm.Cond.classLink "FareLimits" (72 : Nat) "[[J") ∈ lw_all := lw_in (lw_s2 (List.mem_of_getElem? (i := 78) (by decide +kernel))) (by decide +kernel)
theorem kt_388 : (Jvm.Cond.arrayOver (Jvm.ClassFile.FieldType.array Jvm.ClassFile.FieldType.long)) ∈ lw_tbl := lw_s2 (List.mem_of_getElem? (i := 79) (by decide +kernel))
theorem kw_389 : (Jvm.Cond.methodLink "FareLimits" (81 : Nat) ({ cls := "java/util/Arrays", name := "fill", desc := "([II)V" } : Jvm.MethodName)) ∈ lw_all := lw_in (lw_s2 (List.mem_of_getElem? (i := 80) (by decide +kernel))) (by decide +kernel)
theorem kw_390 : (Jvm.Cond.static ({ cls := "java/util/Arrays", name := "fill", desc := "([II)V" } : Jvm.MethodName)) ∈ lw_all := lw_in (lw_s2 (List.mem_of_getElem? (i := 81) (by decide +kernel))) (by decide +kernel)
theorem kw_391 : (Jvm.Cond.code ({ cls := "java/util/Arrays", name := "fill", desc := "([II)V" } : Jvm.MethodName) prog_28_method_103_code (4 : Nat) (Option.none : Option Jvm.ClassFile.FieldType)) ∈ lw_all := lw_in (lw_s2 (List.mem_of_getElem? (i := 82) (by decide +kernel))) (by decide +kernel)
theorem kw_392 : (Jvm.Cond.fieldLink "FareLimits" (12 : Nat) "FareLimits" "plan" "LFareLimits$Plan;") ∈ lw_all := lw_in (lw_s2 (List.mem_of_getElem? (i := 83) (by decide +kernel))) (by decide +kernel)
theorem kw_393 : (Jvm.Cond.fieldLink "FareLimits" (16 : Nat) "FareLimits" "picture" "LFareLimits$Plan;") ∈ lw_all := lw_in (lw_s2 (List.mem_of_getElem? (i := 84) (by decide +kernel))) (by decide +kernel)
theorem kw_394 : (Jvm.Cond.fieldLink "FareLimits" (355 : Nat) "FareLimits" "pictured" "Z") ∈ lw_all := lw_in (lw_s2 (List.mem_of_getElem? (i := 85) (by decide +kernel))) (by decide +kernel)
theorem kw_395 : (Jvm.Cond.fieldLink "FareLimits" (24 : Nat) "FareLimits" "worths" "LFareLimits$Worths;") ∈ lw_all := lw_in (lw_s2 (List.mem_of_getElem? (i := 86) (by decide +kernel))) (by decide +kernel)
theorem kw_396 : (Jvm.Cond.fieldLink "FareLimits" (31 : Nat) "FareLimits" "whole" "LFareLimits$Whole;") ∈ lw_all := lw_in (lw_s2 (List.mem_of_getElem? (i := 87) (by decide +kernel))) (by decide +kernel)
theorem kw_397 : (Jvm.Cond.fieldLink "FareLimits" (38 : Nat) "FareLimits" "chances" "LFareLimits$Chances;") ∈ lw_all := lw_in (lw_s2 (List.mem_of_getElem? (i := 88) (by decide +kernel))) (by decide +kernel)
theorem kw_398 : (Jvm.Cond.fieldLink "FareLimits" (45 : Nat) "FareLimits" "tape" "LFareLimits$Tape;") ∈ lw_all := lw_in (lw_s2 (List.mem_of_getElem? (i := 89) (by decide +kernel))) (by decide +kernel)
theorem kw_399 : (Jvm.Cond.fieldLink "FareLimits" (54 : Nat) "FareLimits" "day" "LFareLimits$Day;") ∈ lw_all := lw_in (lw_s2 (List.mem_of_getElem? (i := 90) (by decide +kernel))) (by decide +kernel)
theorem kw_400 : (Jvm.Cond.fieldLink "FareLimits" (61 : Nat) "FareLimits" "page" "Ljava/lang/StringBuilder;") ∈ lw_all := lw_in (lw_s2 (List.mem_of_getElem? (i := 91) (by decide +kernel))) (by decide +kernel)
theorem kw_401 : (Jvm.Cond.fieldLink "FareLimits" (67 : Nat) "FareLimits" "trays" "[LFareLimits$Tray;") ∈ lw_all := lw_in (lw_s2 (List.mem_of_getElem? (i := 92) (by decide +kernel))) (by decide +kernel)
theorem kw_402 : (Jvm.Cond.fieldLink "FareLimits" (74 : Nat) "FareLimits" "lists" "[[J") ∈ lw_all := lw_in (lw_s2 (List.mem_of_getElem? (i := 93) (by decide +kernel))) (by decide +kernel)
theorem kw_403 : (Jvm.Cond.fieldLink "FareLimits" (77 : Nat) "FareLimits" "listSizes" "[I") ∈ lw_all := lw_in (lw_s2 (List.mem_of_getElem? (i := 94) (by decide +kernel))) (by decide +kernel)
theorem kw_404 : (Jvm.Cond.laysFinal "FareLimits" "FareLimits" "plan" "LFareLimits$Plan;") ∈ lw_all := lw_in (lw_s2 (List.mem_of_getElem? (i := 95) (by decide +kernel))) (by decide +kernel)
theorem kw_406 : (Jvm.Cond.laysFinal "FareLimits" "FareLimits" "picture" "LFareLimits$Plan;") ∈ lw_all := lw_in (lw_s2 (List.mem_of_getElem? (i := 97) (by decide +kernel))) (by decide +kernel)
theorem kw_408 : (Jvm.Cond.lays "FareLimits" "FareLimits" "pictured" "Z") ∈ lw_all := lw_in (lw_s2 (List.mem_of_getElem? (i := 99) (by decide +kernel))) (by decide +kernel)
theorem kw_410 : (Jvm.Cond.laysFinal "FareLimits" "FareLimits" "worths" "LFareLimits$Worths;") ∈ lw_all := lw_in (lw_s2 (List.mem_of_getElem? (i := 101) (by decide +kernel))) (by decide +kernel)
theorem kw_412 : (Jvm.Cond.laysFinal "FareLimits" "FareLimits" "whole" "LFareLimits$Whole;") ∈ lw_all := lw_in (lw_s2 (List.mem_of_getElem? (i := 103) (by decide +kernel))) (by decide +kernel)
theorem kw_414 : (Jvm.Cond.laysFinal "FareLimits" "FareLimits" "chances" "LFareLimits$Chances;") ∈ lw_all := lw_in (lw_s2 (List.mem_of_getElem? (i := 105) (by decide +kernel))) (by decide +kernel)
theorem kw_416 : (Jvm.Cond.laysFinal "FareLimits" "FareLimits" "tape" "LFareLimits$Tape;") ∈ lw_all := lw_in (lw_s2 (List.mem_of_getElem? (i := 107) (by decide +kernel))) (by decide +kernel)
theorem kw_418 : (Jvm.Cond.laysFinal "FareLimits" "FareLimits" "day" "LFareLimits$Day;") ∈ lw_all := lw_in (lw_s2 (List.mem_of_getElem? (i := 109) (by decide +kernel))) (by decide +kernel)
theorem kw_420 : (Jvm.Cond.laysFinal "FareLimits" "FareLimits" "page" "Ljava/lang/StringBuilder;") ∈ lw_all := lw_in (lw_s2 (List.mem_of_getElem? (i := 111) (by decide +kernel))) (by decide +kernel)
theorem kw_422 : (Jvm.Cond.laysFinal "FareLimits" "FareLimits" "trays" "[LFareLimits$Tray;") ∈ lw_all := lw_in (lw_s2 (List.mem_of_getElem? (i := 113) (by decide +kernel))) (by decide +kernel)
theorem kw_424 : (Jvm.Cond.laysFinal "FareLimits" "FareLimits" "lists" "[[J") ∈ lw_all := lw_in (lw_s2 (List.mem_of_getElem? (i := 115) (by decide +kernel))) (by decide +kernel)
theorem kw_426 : (Jvm.Cond.laysFinal "FareLimits" "FareLimits" "listSizes" "[I") ∈ lw_all := lw_in (lw_s2 (List.mem_of_getElem? (i := 117) (by decide +kernel))) (by decide +kernel)
theorem kw_428 : (Jvm.Cond.superclass "FareLimits" "java/lang/Object") ∈ lw_all := lw_in (lw_s2 (List.mem_of_getElem? (i := 119) (by decide +kernel))) (by decide +kernel)
theorem kw_429 : (Jvm.Cond.methodLink "FareLimitsLaw" (13 : Nat) ({ cls := "FareLimits", name := "fare", desc := "(II)I" } : Jvm.MethodName)) ∈ lw_all := lw_in (lw_s2 (List.mem_of_getElem? (i := 120) (by decide +kernel))) (by decide +kernel)
theorem kw_430 : (Jvm.Cond.instanceMethod ({ cls := "FareLimits", name := "fare", desc := "(II)I" } : Jvm.MethodName)) ∈ lw_all := lw_in (lw_s2 (List.mem_of_getElem? (i := 121) (by decide +kernel))) (by decide +kernel)
theorem kw_431 : (Jvm.Cond.selects "FareLimits" ({ cls := "FareLimits", name := "fare", desc := "(II)I" } : Jvm.MethodName) ({ cls := "FareLimits", name := "fare", desc := "(II)I" } : Jvm.MethodName)) ∈ lw_all := lw_in (lw_s2 (List.mem_of_getElem? (i := 122) (by decide +kernel))) (by decide +kernel)
theorem kw_432 : (Jvm.Cond.code ({ cls := "FareLimits", name := "fare", desc := "(II)I" } : Jvm.MethodName) prog_1_method_2_code (4 : Nat) (Option.some Jvm.ClassFile.FieldType.int)) ∈ lw_all := lw_in (lw_s2 (List.mem_of_getElem? (i := 123) (by decide +kernel))) (by decide +kernel)
theorem kw_433 : (Jvm.Cond.fieldLink "FareLimits" (87 : Nat) "FareLimits" "KINDS" "[LFareLimits$Kind;") ∈ lw_all := lw_in (lw_s2 (List.mem_of_getElem? (i := 124) (by decide +kernel))) (by decide +kernel)
theorem kt_434 : (Jvm.Cond.laysStatic "FareLimits" "KINDS" "[LFareLimits$Kind;") ∈ lw_tbl := lw_s2 (List.mem_of_getElem? (i := 125) (by decide +kernel))
theorem kw_435 : (Jvm.Cond.methodLink "FareLimits" (91 : Nat) ({ cls := "FareLimits", name := "within", desc := "(II)Z" } : Jvm.MethodName)) ∈ lw_all := lw_in (lw_s2 (List.mem_of_getElem? (i := 126) (by decide +kernel))) (by decide +kernel)
theorem kw_436 : (Jvm.Cond.static ({ cls := "FareLimits", name := "within", desc := "(II)Z" } : Jvm.MethodName)) ∈ lw_all := lw_in (lw_s2 (List.mem_of_getElem? (i := 127) (by decide +kernel))) (by decide +kernel)
theorem kw_437 : (Jvm.Cond.code ({ cls := "FareLimits", name := "within", desc := "(II)Z" } : Jvm.MethodName) prog_1_method_50_code (2 : Nat) (Option.some Jvm.ClassFile.FieldType.boolean)) ∈ lw_all := lw_in (lw_s2 (List.mem_of_getElem? (i := 128) (by decide +kernel))) (by decide +kernel)
theorem kw_438 : (Jvm.Cond.methodLink "FareLimits" (103 : Nat) ({ cls := "FareLimits$Fare", name := "begin", desc := "(LFareLimits$Kind;I)V" } : Jvm.MethodName)) ∈ lw_all := lw_in (lw_s2 (List.mem_of_getElem? (i := 129) (by decide +kernel))) (by decide +kernel)
theorem kw_439 : (Jvm.Cond.instanceMethod ({ cls := "FareLimits$Fare", name := "begin", desc := "(LFareLimits$Kind;I)V" } : Jvm.MethodName)) ∈ lw_all := lw_in (lw_s2 (List.mem_of_getElem? (i := 130) (by decide +kernel))) (by decide +kernel)
theorem kw_440 : (Jvm.Cond.selects "FareLimits$Fare" ({ cls := "FareLimits$Fare", name := "begin", desc := "(LFareLimits$Kind;I)V" } : Jvm.MethodName) ({ cls := "FareLimits$Fare", name := "begin", desc := "(LFareLimits$Kind;I)V" } : Jvm.MethodName)) ∈ lw_all := lw_in (lw_s2 (List.mem_of_getElem? (i := 131) (by decide +kernel))) (by decide +kernel)
theorem kw_441 : (Jvm.Cond.code ({ cls := "FareLimits$Fare", name := "begin", desc := "(LFareLimits$Kind;I)V" } : Jvm.MethodName) prog_4_method_2_code (3 : Nat) (Option.none : Option Jvm.ClassFile.FieldType)) ∈ lw_all := lw_in (lw_s2 (List.mem_of_getElem? (i := 132) (by decide +kernel))) (by decide +kernel)
theorem kw_442 : (Jvm.Cond.methodLink "FareLimits$Fare" (31 : Nat) ({ cls := "java/util/Arrays", name := "fill", desc := "([II)V" } : Jvm.MethodName)) ∈ lw_all := lw_in (lw_s2 (List.mem_of_getElem? (i := 133) (by decide +kernel))) (by decide +kernel)
theorem kw_443 : (Jvm.Cond.methodLink "FareLimits" (109 : Nat) ({ cls := "FareLimits$Worths", name := "forget", desc := "()V" } : Jvm.MethodName)) ∈ lw_all := lw_in (lw_s2 (List.mem_of_getElem? (i := 134) (by decide +kernel))) (by decide +kernel)
theorem kw_444 : (Jvm.Cond.instanceMethod ({ cls := "FareLimits$Worths", name := "forget", desc := "()V" } : Jvm.MethodName)) ∈ lw_all := lw_in (lw_s2 (List.mem_of_getElem? (i := 135) (by decide +kernel))) (by decide +kernel)
theorem kw_445 : (Jvm.Cond.selects "FareLimits$Worths" ({ cls := "FareLimits$Worths", name := "forget", desc := "()V" } : Jvm.MethodName) ({ cls := "FareLimits$Worths", name := "forget", desc := "()V" } : Jvm.MethodName)) ∈ lw_all := lw_in (lw_s2 (List.mem_of_getElem? (i := 136) (by decide +kernel))) (by decide +kernel)
theorem kw_446 : (Jvm.Cond.code ({ cls := "FareLimits$Worths", name := "forget", desc := "()V" } : Jvm.MethodName) prog_12_method_2_code (1 : Nat) (Option.none : Option Jvm.ClassFile.FieldType)) ∈ lw_all := lw_in (lw_s2 (List.mem_of_getElem? (i := 137) (by decide +kernel))) (by decide +kernel)
theorem kw_447 : (Jvm.Cond.methodLink "FareLimitsLaw" (18 : Nat) ({ cls := "FareLimits", name := "of", desc := "(II)I" } : Jvm.MethodName)) ∈ lw_all := lw_in (lw_s2 (List.mem_of_getElem? (i := 138) (by decide +kernel))) (by decide +kernel)
theorem kw_448 : (Jvm.Cond.instanceMethod ({ cls := "FareLimits", name := "of", desc := "(II)I" } : Jvm.MethodName)) ∈ lw_all := lw_in (lw_s2 (List.mem_of_getElem? (i := 139) (by decide +kernel))) (by decide +kernel)
theorem kw_449 : (Jvm.Cond.selects "FareLimits" ({ cls := "FareLimits", name := "of", desc := "(II)I" } : Jvm.MethodName) ({ cls := "FareLimits", name := "of", desc := "(II)I" } : Jvm.MethodName)) ∈ lw_all := lw_in (lw_s2 (List.mem_of_getElem? (i := 140) (by decide +kernel))) (by decide +kernel)
theorem kw_450 : (Jvm.Cond.code ({ cls := "FareLimits", name := "of", desc := "(II)I" } : Jvm.MethodName) prog_1_method_3_code (4 : Nat) (Option.some Jvm.ClassFile.FieldType.int)) ∈ lw_all := lw_in (lw_s2 (List.mem_of_getElem? (i := 141) (by decide +kernel))) (by decide +kernel)
theorem kw_451 : (Jvm.Cond.methodLink "FareLimits" (112 : Nat) ({ cls := "FareLimits$Plan", name := "hasFare", desc := "(I)Z" } : Jvm.MethodName)) ∈ lw_all := lw_in (lw_s2 (List.mem_of_getElem? (i := 142) (by decide +kernel))) (by decide +kernel)
theorem kw_452 : (Jvm.Cond.instanceMethod ({ cls := "FareLimits$Plan", name := "hasFare", desc := "(I)Z" } : Jvm.MethodName)) ∈ lw_all := lw_in (lw_s2 (List.mem_of_getElem? (i := 143) (by decide +kernel))) (by decide +kernel)
theorem kw_453 : (Jvm.Cond.selects "FareLimits$Plan" ({ cls := "FareLimits$Plan", name := "hasFare", desc := "(I)Z" } : Jvm.MethodName) ({ cls := "FareLimits$Plan", name := "hasFare", desc := "(I)Z" } : Jvm.MethodName)) ∈ lw_all := lw_in (lw_s2 (List.mem_of_getElem? (i := 144) (by decide +kernel))) (by decide +kernel)
theorem kw_454 : (Jvm.Cond.code ({ cls := "FareLimits$Plan", name := "hasFare", desc := "(I)Z" } : Jvm.MethodName) prog_7_method_3_code (2 : Nat) (Option.some Jvm.ClassFile.FieldType.boolean)) ∈ lw_all := lw_in (lw_s2 (List.mem_of_getElem? (i := 145) (by decide +kernel))) (by decide +kernel)
theorem kw_455 : (Jvm.Cond.methodLink "FareLimitsLaw" (22 : Nat) ({ cls := "FareLimits", name := "odds", desc := "(III)I" } : Jvm.MethodName)) ∈ lw_all := lw_in (lw_s2 (List.mem_of_getElem? (i := 146) (by decide +kernel))) (by decide +kernel)
theorem kw_456 : (Jvm.Cond.instanceMethod ({ cls := "FareLimits", name := "odds", desc := "(III)I" } : Jvm.MethodName)) ∈ lw_all := lw_in (lw_s2 (List.mem_of_getElem? (i := 147) (by decide +kernel))) (by decide +kernel)
theorem kw_457 : (Jvm.Cond.selects "FareLimits" ({ cls := "FareLimits", name := "odds", desc := "(III)I" } : Jvm.MethodName) ({ cls := "FareLimits", name := "odds", desc := "(III)I" } : Jvm.MethodName)) ∈ lw_all := lw_in (lw_s2 (List.mem_of_getElem? (i := 148) (by decide +kernel))) (by decide +kernel)
theorem kw_458 : (Jvm.Cond.code ({ cls := "FareLimits", name := "odds", desc := "(III)I" } : Jvm.MethodName) prog_1_method_4_code (6 : Nat) (Option.some Jvm.ClassFile.FieldType.int)) ∈ lw_all := lw_in (lw_s2 (List.mem_of_getElem? (i := 149) (by decide +kernel))) (by decide +kernel)
theorem kw_459 : (Jvm.Cond.methodLink "FareLimits" (131 : Nat) ({ cls := "FareLimits$Plan", name := "oddsTogether", desc := "(I)I" } : Jvm.MethodName)) ∈ lw_all := lw_in (lw_s2 (List.mem_of_getElem? (i := 150) (by decide +kernel))) (by decide +kernel)
theorem kw_460 : (Jvm.Cond.instanceMethod ({ cls := "FareLimits$Plan", name := "oddsTogether", desc := "(I)I" } : Jvm.MethodName)) ∈ lw_all := lw_in (lw_s2 (List.mem_of_getElem? (i := 151) (by decide +kernel))) (by decide +kernel)
theorem kw_461 : (Jvm.Cond.selects "FareLimits$Plan" ({ cls := "FareLimits$Plan", name := "oddsTogether", desc := "(I)I" } : Jvm.MethodName) ({ cls := "FareLimits$Plan", name := "oddsTogether", desc := "(I)I" } : Jvm.MethodName)) ∈ lw_all := lw_in (lw_s2 (List.mem_of_getElem? (i := 152) (by decide +kernel))) (by decide +kernel)
theorem kw_462 : (Jvm.Cond.code ({ cls := "FareLimits$Plan", name := "oddsTogether", desc := "(I)I" } : Jvm.MethodName) prog_7_method_4_code (4 : Nat) (Option.some Jvm.ClassFile.FieldType.int)) ∈ lw_all := lw_in (lw_s2 (List.mem_of_getElem? (i := 153) (by decide +kernel))) (by decide +kernel)
theorem kw_463 : (Jvm.Cond.methodLink "FareLimitsLaw" (27 : Nat) ({ cls := "FareLimits", name := "drop", desc := "()I" } : Jvm.MethodName)) ∈ lw_all := lw_in (lw_s2 (List.mem_of_getElem? (i := 154) (by decide +kernel))) (by decide +kernel)
theorem kw_464 : (Jvm.Cond.instanceMethod ({ cls := "FareLimits", name := "drop", desc := "()I" } : Jvm.MethodName)) ∈ lw_all := lw_in (lw_s2 (List.mem_of_getElem? (i := 155) (by decide +kernel))) (by decide +kernel)
theorem kw_465 : (Jvm.Cond.selects "FareLimits" ({ cls := "FareLimits", name := "drop", desc := "()I" } : Jvm.MethodName) ({ cls := "FareLimits", name := "drop", desc := "()I" } : Jvm.MethodName)) ∈ lw_all := lw_in (lw_s2 (List.mem_of_getElem? (i := 156) (by decide +kernel))) (by decide +kernel)
theorem kw_466 : (Jvm.Cond.code ({ cls := "FareLimits", name := "drop", desc := "()I" } : Jvm.MethodName) prog_1_method_5_code (1 : Nat) (Option.some Jvm.ClassFile.FieldType.int)) ∈ lw_all := lw_in (lw_s2 (List.mem_of_getElem? (i := 157) (by decide +kernel))) (by decide +kernel)
theorem kw_467 : (Jvm.Cond.methodLink "FareLimitsLaw" (32 : Nat) ({ cls := "FareLimits", name := "rule", desc := "(II)I" } : Jvm.MethodName)) ∈ lw_all := lw_in (lw_s2 (List.mem_of_getElem? (i := 158) (by decide +kernel))) (by decide +kernel)
theorem kw_468 : (Jvm.Cond.instanceMethod ({ cls := "FareLimits", name := "rule", desc := "(II)I" } : Jvm.MethodName)) ∈ lw_all := lw_in (lw_s2 (List.mem_of_getElem? (i := 159) (by decide +kernel))) (by decide +kernel)
theorem kw_469 : (Jvm.Cond.selects "FareLimits" ({ cls := "FareLimits", name := "rule", desc := "(II)I" } : Jvm.MethodName) ({ cls := "FareLimits", name := "rule", desc := "(II)I" } : Jvm.MethodName)) ∈ lw_all := lw_in (lw_s2 (List.mem_of_getElem? (i := 160) (by decide +kernel))) (by decide +kernel)
theorem kw_470 : (Jvm.Cond.code ({ cls := "FareLimits", name := "rule", desc := "(II)I" } : Jvm.MethodName) prog_1_method_6_code (4 : Nat) (Option.some Jvm.ClassFile.FieldType.int)) ∈ lw_all := lw_in (lw_s2 (List.mem_of_getElem? (i := 161) (by decide +kernel))) (by decide +kernel)
theorem kw_471 : (Jvm.Cond.fieldLink "FareLimits" (135 : Nat) "FareLimits" "MOST_OF_A_RULE" "[I") ∈ lw_all := lw_in (lw_s2 (List.mem_of_getElem? (i := 162) (by decide +kernel))) (by decide +kernel)
theorem kt_472 : (Jvm.Cond.laysStatic "FareLimits" "MOST_OF_A_RULE" "[I") ∈ lw_tbl := lw_s2 (List.mem_of_getElem? (i := 163) (by decide +kernel))
theorem kw_473 : (Jvm.Cond.methodLink "FareLimitsLaw" (152 : Nat) ({ cls := "FareLimits", name := "hand", desc := "(II)I" } : Jvm.MethodName)) ∈ lw_all := lw_in (lw_s2 (List.mem_of_getElem? (i := 164) (by decide +kernel))) (by decide +kernel)
theorem kw_474 : (Jvm.Cond.instanceMethod ({ cls := "FareLimits", name := "hand", desc := "(II)I" } : Jvm.MethodName)) ∈ lw_all := lw_in (lw_s2 (List.mem_of_getElem? (i := 165) (by decide +kernel))) (by decide +kernel)
theorem kw_475 : (Jvm.Cond.selects "FareLimits" ({ cls := "FareLimits", name := "hand", desc := "(II)I" } : Jvm.MethodName) ({ cls := "FareLimits", name := "hand", desc := "(II)I" } : Jvm.MethodName)) ∈ lw_all := lw_in (lw_s2 (List.mem_of_getElem? (i := 166) (by decide +kernel))) (by decide +kernel)
theorem kw_476 : (Jvm.Cond.code ({ cls := "FareLimits", name := "hand", desc := "(II)I" } : Jvm.MethodName) prog_1_method_7_code (4 : Nat) (Option.some Jvm.ClassFile.FieldType.int)) ∈ lw_all := lw_in (lw_s2 (List.mem_of_getElem? (i := 167) (by decide +kernel))) (by decide +kernel)
theorem kw_477 : (Jvm.Cond.methodLink "FareLimitsLaw" (36 : Nat) ({ cls := "FareLimits", name := "shows", desc := "(I)J" } : Jvm.MethodName)) ∈ lw_all := lw_in (lw_s2 (List.mem_of_getElem? (i := 168) (by decide +kernel))) (by decide +kernel)
theorem kw_478 : (Jvm.Cond.instanceMethod ({ cls := "FareLimits", name := "shows", desc := "(I)J" } : Jvm.MethodName)) ∈ lw_all := lw_in (lw_s2 (List.mem_of_getElem? (i := 169) (by decide +kernel))) (by decide +kernel)
theorem kw_479 : (Jvm.Cond.selects "FareLimits" ({ cls := "FareLimits", name := "shows", desc := "(I)J" } : Jvm.MethodName) ({ cls := "FareLimits", name := "shows", desc := "(I)J" } : Jvm.MethodName)) ∈ lw_all := lw_in (lw_s2 (List.mem_of_getElem? (i := 170) (by decide +kernel))) (by decide +kernel)
theorem kw_480 : (Jvm.Cond.code ({ cls := "FareLimits", name := "shows", desc := "(I)J" } : Jvm.MethodName) prog_1_method_8_code (2 : Nat) (Option.some Jvm.ClassFile.FieldType.long)) ∈ lw_all := lw_in (lw_s2 (List.mem_of_getElem? (i := 171) (by decide +kernel))) (by decide +kernel)
theorem kw_481 : (Jvm.Cond.methodLink "FareLimits" (144 : Nat) ({ cls := "FareLimits$Plan", name := "showing", desc := "(I)D" } : Jvm.MethodName)) ∈ lw_all := lw_in (lw_s2 (List.mem_of_getElem? (i := 172) (by decide +kernel))) (by decide +kernel)
theorem kw_482 : (Jvm.Cond.instanceMethod ({ cls := "FareLimits$Plan", name := "showing", desc := "(I)D" } : Jvm.MethodName)) ∈ lw_all := lw_in (lw_s2 (List.mem_of_getElem? (i := 173) (by decide +kernel))) (by decide +kernel)
theorem kw_483 : (Jvm.Cond.selects "FareLimits$Plan" ({ cls := "FareLimits$Plan", name := "showing", desc := "(I)D" } : Jvm.MethodName) ({ cls := "FareLimits$Plan", name := "showing", desc := "(I)D" } : Jvm.MethodName)) ∈ lw_all := lw_in (lw_s2 (List.mem_of_getElem? (i := 174) (by decide +kernel))) (by decide +kernel)
theorem kw_484 : (Jvm.Cond.code ({ cls := "FareLimits$Plan", name := "showing", desc := "(I)D" } : Jvm.MethodName) prog_7_method_7_code (7 : Nat) (Option.some Jvm.ClassFile.FieldType.double)) ∈ lw_all := lw_in (lw_s2 (List.mem_of_getElem? (i := 175) (by decide +kernel))) (by decide +kernel)
theorem kw_485 : (Jvm.Cond.constantDouble "FareLimits$Plan" (61 : Nat) (4636737291354636288 : UInt64)) ∈ lw_all := lw_in (lw_s2 (List.mem_of_getElem? (i := 176) (by decide +kernel))) (by decide +kernel)
theorem kw_486 : (Jvm.Cond.methodLink "FareLimits" (148 : Nat) ({ cls := "FareLimits$Whole", name := "bitsOfDouble", desc := "(D)J" } : Jvm.MethodName)) ∈ lw_all := lw_in (lw_s2 (List.mem_of_getElem? (i := 177) (by decide +kernel))) (by decide +kernel)
theorem kw_487 : (Jvm.Cond.static ({ cls := "FareLimits$Whole", name := "bitsOfDouble", desc := "(D)J" } : Jvm.MethodName)) ∈ lw_all := lw_in (lw_s2 (List.mem_of_getElem? (i := 178) (by decide +kernel))) (by decide +kernel)
theorem kw_488 : (Jvm.Cond.code ({ cls := "FareLimits$Whole", name := "bitsOfDouble", desc := "(D)J" } : Jvm.MethodName) prog_11_method_9_code (7 : Nat) (Option.some Jvm.ClassFile.FieldType.long)) ∈ lw_all := lw_in (lw_s2 (List.mem_of_getElem? (i := 179) (by decide +kernel))) (by decide +kernel)
theorem kw_489 : (Jvm.Cond.constantDouble "FareLimits$Whole" (73 : Nat) (4751297606875873280 : UInt64)) ∈ lw_all := lw_in (lw_s2 (List.mem_of_getElem? (i := 180) (by decide +kernel))) (by decide +kernel)
theorem kw_490 : (Jvm.Cond.constantDouble "FareLimits$Whole" (75 : Nat) (4611686018427387904 : UInt64)) ∈ lw_all := lw_in (lw_s2 (List.mem_of_getElem? (i := 181) (by decide +kernel))) (by decide +kernel)
theorem kw_491 : (Jvm.Cond.constantDouble "FareLimits$Whole" (77 : Nat) (4841369599423283200 : UInt64)) ∈ lw_all := lw_in (lw_s2 (List.mem_of_getElem? (i := 182) (by decide +kernel))) (by decide +kernel)
theorem kw_492 : (Jvm.Cond.constantLong "FareLimits$Whole" (79 : Nat) (-9223372036854775808 : Int64)) ∈ lw_all := lw_in (lw_s2 (List.mem_of_getElem? (i := 183) (by decide +kernel))) (by decide +kernel)
theorem kw_493 : (Jvm.Cond.constantLong "FareLimits" (152 : Nat) (-9223372036854775808 : Int64)) ∈ lw_all := lw_in (lw_s2 (List.mem_of_getElem? (i := 184) (by decide +kernel))) (by decide +kernel)
theorem kw_494 : (Jvm.Cond.methodLink "FareLimitsLaw" (41 : Nat) ({ cls := "FareLimits", name := "net", desc := "(II)J" } : Jvm.MethodName)) ∈ lw_all := lw_in (lw_s2 (List.mem_of_getElem? (i := 185) (by decide +kernel))) (by decide +kernel)
theorem kw_495 : (Jvm.Cond.instanceMethod ({ cls := "FareLimits", name := "net", desc := "(II)J" } : Jvm.MethodName)) ∈ lw_all := lw_in (lw_s2 (List.mem_of_getElem? (i := 186) (by decide +kernel))) (by decide +kernel)
theorem kw_496 : (Jvm.Cond.selects "FareLimits" ({ cls := "FareLimits", name := "net", desc := "(II)J" } : Jvm.MethodName) ({ cls := "FareLimits", name := "net", desc := "(II)J" } : Jvm.MethodName)) ∈ lw_all := lw_in (lw_s2 (List.mem_of_getElem? (i := 187) (by decide +kernel))) (by decide +kernel)
theorem kw_497 : (Jvm.Cond.code ({ cls := "FareLimits", name := "net", desc := "(II)J" } : Jvm.MethodName) prog_1_method_9_code (3 : Nat) (Option.some Jvm.ClassFile.FieldType.long)) ∈ lw_all := lw_in (lw_s2 (List.mem_of_getElem? (i := 188) (by decide +kernel))) (by decide +kernel)
theorem kw_498 : (Jvm.Cond.methodLink "FareLimits" (154 : Nat) ({ cls := "FareLimits$Plan", name := "netBy", desc := "(ID)D" } : Jvm.MethodName)) ∈ lw_all := lw_in (lw_s2 (List.mem_of_getElem? (i := 189) (by decide +kernel))) (by decide +kernel)
theorem kw_499 : (Jvm.Cond.instanceMethod ({ cls := "FareLimits$Plan", name := "netBy", desc := "(ID)D" } : Jvm.MethodName)) ∈ lw_all := lw_in (lw_s2 (List.mem_of_getElem? (i := 190) (by decide +kernel))) (by decide +kernel)
theorem kw_500 : (Jvm.Cond.selects "FareLimits$Plan" ({ cls := "FareLimits$Plan", name := "netBy", desc := "(ID)D" } : Jvm.MethodName) ({ cls := "FareLimits$Plan", name := "netBy", desc := "(ID)D" } : Jvm.MethodName)) ∈ lw_all := lw_in (lw_s2 (List.mem_of_getElem? (i := 191) (by decide +kernel))) (by decide +kernel)
theorem kw_501 : (Jvm.Cond.code ({ cls := "FareLimits$Plan", name := "netBy", desc := "(ID)D" } : Jvm.MethodName) prog_7_method_8_code (6 : Nat) (Option.some Jvm.ClassFile.FieldType.double)) ∈ lw_all := lw_in (lw_s2 (List.mem_of_getElem? (i := 192) (by decide +kernel))) (by decide +kernel)
theorem kw_502 : (Jvm.Cond.constantDouble "FareLimits$Plan" (72 : Nat) (4616189618054758400 : UInt64)) ∈ lw_all := lw_in (lw_s2 (List.mem_of_getElem? (i := 193) (by decide +kernel))) (by decide +kernel)
theorem kw_503 : (Jvm.Cond.methodLink "FareLimitsLaw" (46 : Nat) ({ cls := "FareLimits", name := "netCut", desc := "(II)I" } : Jvm.MethodName)) ∈ lw_all := lw_in (lw_s2 (List.mem_of_getElem? (i := 194) (by decide +kernel))) (by decide +kernel)
theorem kw_504 : (Jvm.Cond.instanceMethod ({ cls := "FareLimits", name := "netCut", desc := "(II)I" } : Jvm.MethodName)) ∈ lw_all := lw_in (lw_s2 (List.mem_of_getElem? (i := 195) (by decide +kernel))) (by decide +kernel)
theorem kw_505 : (Jvm.Cond.selects "FareLimits" ({ cls := "FareLimits", name := "netCut", desc := "(II)I" } : Jvm.MethodName) ({ cls := "FareLimits", name := "netCut", desc := "(II)I" } : Jvm.MethodName)) ∈ lw_all := lw_in (lw_s2 (List.mem_of_getElem? (i := 196) (by decide +kernel))) (by decide +kernel)
theorem kw_506 : (Jvm.Cond.code ({ cls := "FareLimits", name := "netCut", desc := "(II)I" } : Jvm.MethodName) prog_1_method_10_code (3 : Nat) (Option.some Jvm.ClassFile.FieldType.int)) ∈ lw_all := lw_in (lw_s2 (List.mem_of_getElem? (i := 197) (by decide +kernel))) (by decide +kernel)
theorem kw_507 : (Jvm.Cond.methodLink "FareLimitsLaw" (50 : Nat) ({ cls := "FareLimits", name := "worth", desc := "(II)J" } : Jvm.MethodName)) ∈ lw_all := lw_in (lw_s2 (List.mem_of_getElem? (i := 198) (by decide +kernel))) (by decide +kernel)
theorem kw_508 : (Jvm.Cond.instanceMethod ({ cls := "FareLimits", name := "worth", desc := "(II)J" } : Jvm.MethodName)) ∈ lw_all := lw_in (lw_s2 (List.mem_of_getElem? (i := 199) (by decide +kernel))) (by decide +kernel)
theorem kw_509 : (Jvm.Cond.selects "FareLimits" ({ cls := "FareLimits", name := "worth", desc := "(II)J" } : Jvm.MethodName) ({ cls := "FareLimits", name := "worth", desc := "(II)J" } : Jvm.MethodName)) ∈ lw_all := lw_in (lw_s2 (List.mem_of_getElem? (i := 200) (by decide +kernel))) (by decide +kernel)
theorem kw_510 : (Jvm.Cond.code ({ cls := "FareLimits", name := "worth", desc := "(II)J" } : Jvm.MethodName) prog_1_method_11_code (3 : Nat) (Option.some Jvm.ClassFile.FieldType.long)) ∈ lw_all := lw_in (lw_s2 (List.mem_of_getElem? (i := 201) (by decide +kernel))) (by decide +kernel)
theorem kw_511 : (Jvm.Cond.methodLink "FareLimits" (158 : Nat) ({ cls := "FareLimits$Worths", name := "row", desc := "(I)[D" } : Jvm.MethodName)) ∈ lw_all := lw_in (lw_s2 (List.mem_of_getElem? (i := 202) (by decide +kernel))) (by decide +kernel)
theorem kw_512 : (Jvm.Cond.instanceMethod ({ cls := "FareLimits$Worths", name := "row", desc := "(I)[D" } : Jvm.MethodName)) ∈ lw_all := lw_in (lw_s2 (List.mem_of_getElem? (i := 203) (by decide +kernel))) (by decide +kernel)
theorem kw_513 : (Jvm.Cond.selects "FareLimits$Worths" ({ cls := "FareLimits$Worths", name := "row", desc := "(I)[D" } : Jvm.MethodName) ({ cls := "FareLimits$Worths", name := "row", desc := "(I)[D" } : Jvm.MethodName)) ∈ lw_all := lw_in (lw_s2 (List.mem_of_getElem? (i := 204) (by decide +kernel))) (by decide +kernel)
theorem kw_514 : (Jvm.Cond.code ({ cls := "FareLimits$Worths", name := "row", desc := "(I)[D" } : Jvm.MethodName) prog_12_method_3_code (3 : Nat) (Option.some (Jvm.ClassFile.FieldType.array Jvm.ClassFile.FieldType.double))) ∈ lw_all := lw_in (lw_s2 (List.mem_of_getElem? (i := 205) (by decide +kernel))) (by decide +kernel)
theorem kw_515 : (Jvm.Cond.methodLink "FareLimits$Worths" (28 : Nat) ({ cls := "FareLimits$Worths", name := "make", desc := "(I)V" } : Jvm.MethodName)) ∈ lw_all := lw_in (lw_s2 (List.mem_of_getElem? (i := 206) (by decide +kernel))) (by decide +kernel)
theorem kw_517 : (Jvm.Cond.instanceMethod ({ cls := "FareLimits$Worths", name := "make", desc := "(I)V" } : Jvm.MethodName)) ∈ lw_all := lw_in (lw_s2 (List.mem_of_getElem? (i := 208) (by decide +kernel))) (by decide +kernel)
theorem kw_518 : (Jvm.Cond.code ({ cls := "FareLimits$Worths", name := "make", desc := "(I)V" } : Jvm.MethodName) prog_12_method_4_code (5 : Nat) (Option.none : Option Jvm.ClassFile.FieldType)) ∈ lw_all := lw_in (lw_s2 (List.mem_of_getElem? (i := 209) (by decide +kernel))) (by decide +kernel)
theorem kw_519 : (Jvm.Cond.methodLink "FareLimits$Worths" (38 : Nat) ({ cls := "FareLimits$Plan", name := "showing", desc := "(I)D" } : Jvm.MethodName)) ∈ lw_all := lw_in (lw_s2 (List.mem_of_getElem? (i := 210) (by decide +kernel))) (by decide +kernel)
theorem kw_520 : (Jvm.Cond.methodLink "FareLimits$Worths" (47 : Nat) ({ cls := "FareLimits$Plan", name := "netBy", desc := "(ID)D" } : Jvm.MethodName)) ∈ lw_all := lw_in (lw_s2 (List.mem_of_getElem? (i := 211) (by decide +kernel))) (by decide +kernel)
theorem kt_521 : (Jvm.Cond.methodLinkNest "FareLimits$Worths" (55 : Nat) ({ cls := "FareLimits", name := "phaseOf", desc := "(I)I" } : Jvm.MethodName) "FareLimits") ∈ lw_tbl := lw_s2 (List.mem_of_getElem? (i := 212) (by decide +kernel))
theorem kw_522 : (Jvm.Cond.static ({ cls := "FareLimits", name := "phaseOf", desc := "(I)I" } : Jvm.MethodName)) ∈ lw_all := lw_in (lw_s2 (List.mem_of_getElem? (i := 213) (by decide +kernel))) (by decide +kernel)
theorem kw_523 : (Jvm.Cond.code ({ cls := "FareLimits", name := "phaseOf", desc := "(I)I" } : Jvm.MethodName) prog_1_method_52_code (1 : Nat) (Option.some Jvm.ClassFile.FieldType.int)) ∈ lw_all := lw_in (lw_s2 (List.mem_of_getElem? (i := 214) (by decide +kernel))) (by decide +kernel)
theorem kw_524 : (Jvm.Cond.methodLink "FareLimits$Worths" (59 : Nat) ({ cls := "FareLimits$Worths", name := "worthOf", desc := "([DII)D" } : Jvm.MethodName)) ∈ lw_all := lw_in (lw_s2 (List.mem_of_getElem? (i := 215) (by decide +kernel))) (by decide +kernel)
theorem kw_526 : (Jvm.Cond.instanceMethod ({ cls := "FareLimits$Worths", name := "worthOf", desc := "([DII)D" } : Jvm.MethodName)) ∈ lw_all := lw_in (lw_s2 (List.mem_of_getElem? (i := 217) (by decide +kernel))) (by decide +kernel)
theorem kw_527 : (Jvm.Cond.code ({ cls := "FareLimits$Worths", name := "worthOf", desc := "([DII)D" } : Jvm.MethodName) prog_12_method_5_code (11 : Nat) (Option.some Jvm.ClassFile.FieldType.double)) ∈ lw_all := lw_in (lw_s2 (List.mem_of_getElem? (i := 218) (by decide +kernel))) (by decide +kernel)
theorem kw_528 : (Jvm.Cond.constantDouble "FareLimits$Worths" (72 : Nat) (4636737291354636288 : UInt64)) ∈ lw_all := lw_in (lw_s2 (List.mem_of_getElem? (i := 219) (by decide +kernel))) (by decide +kernel)
theorem kw_529 : (Jvm.Cond.methodLink "FareLimits$Worths" (32 : Nat) ({ cls := "java/lang/Math", name := "max", desc := "(II)I" } : Jvm.MethodName)) ∈ lw_all := lw_in (lw_s2 (List.mem_of_getElem? (i := 220) (by decide +kernel))) (by decide +kernel)
theorem kw_530 : (Jvm.Cond.static ({ cls := "java/lang/Math", name := "max", desc := "(II)I" } : Jvm.MethodName)) ∈ lw_all := lw_in (lw_s2 (List.mem_of_getElem? (i := 221) (by decide +kernel))) (by decide +kernel)
theorem kw_531 : (Jvm.Cond.code ({ cls := "java/lang/Math", name := "max", desc := "(II)I" } : Jvm.MethodName) prog_21_method_65_code (2 : Nat) (Option.some Jvm.ClassFile.FieldType.int)) ∈ lw_all := lw_in (lw_s2 (List.mem_of_getElem? (i := 222) (by decide +kernel))) (by decide +kernel)
theorem kw_532 : (Jvm.Cond.methodLink "FareLimitsLaw" (54 : Nat) ({ cls := "FareLimits", name := "worthShort", desc := "(II)I" } : Jvm.MethodName)) ∈ lw_all := lw_in (lw_s2 (List.mem_of_getElem? (i := 223) (by decide +kernel))) (by decide +kernel)
theorem kw_533 : (Jvm.Cond.instanceMethod ({ cls := "FareLimits", name := "worthShort", desc := "(II)I" } : Jvm.MethodName)) ∈ lw_all := lw_in (lw_s2 (List.mem_of_getElem? (i := 224) (by decide +kernel))) (by decide +kernel)
theorem kw_534 : (Jvm.Cond.selects "FareLimits" ({ cls := "FareLimits", name := "worthShort", desc := "(II)I" } : Jvm.MethodName) ({ cls := "FareLimits", name := "worthShort", desc := "(II)I" } : Jvm.MethodName)) ∈ lw_all := lw_in (lw_s2 (List.mem_of_getElem? (i := 225) (by decide +kernel))) (by decide +kernel)
theorem kw_535 : (Jvm.Cond.code ({ cls := "FareLimits", name := "worthShort", desc := "(II)I" } : Jvm.MethodName) prog_1_method_12_code (3 : Nat) (Option.some Jvm.ClassFile.FieldType.int)) ∈ lw_all := lw_in (lw_s2 (List.mem_of_getElem? (i := 226) (by decide +kernel))) (by decide +kernel)
theorem kw_536 : (Jvm.Cond.methodLink "FareLimits" (162 : Nat) ({ cls := "FareLimits$Whole", name := "bitsOfFloat", desc := "(F)I" } : Jvm.MethodName)) ∈ lw_all := lw_in (lw_s2 (List.mem_of_getElem? (i := 227) (by decide +kernel))) (by decide +kernel)
theorem kw_537 : (Jvm.Cond.static ({ cls := "FareLimits$Whole", name := "bitsOfFloat", desc := "(F)I" } : Jvm.MethodName)) ∈ lw_all := lw_in (lw_s2 (List.mem_of_getElem? (i := 228) (by decide +kernel))) (by decide +kernel)
theorem kw_538 : (Jvm.Cond.code ({ cls := "FareLimits$Whole", name := "bitsOfFloat", desc := "(F)I" } : Jvm.MethodName) prog_11_method_10_code (5 : Nat) (Option.some Jvm.ClassFile.FieldType.int)) ∈ lw_all := lw_in (lw_s2 (List.mem_of_getElem? (i := 229) (by decide +kernel))) (by decide +kernel)
theorem kw_539 : (Jvm.Cond.methodLink "FareLimits$Whole" (81 : Nat) ({ cls := "FareLimits$Whole", name := "bitsOfDouble", desc := "(D)J" } : Jvm.MethodName)) ∈ lw_all := lw_in (lw_s2 (List.mem_of_getElem? (i := 230) (by decide +kernel))) (by decide +kernel)
theorem kw_540 : (Jvm.Cond.constant "FareLimits$Whole" (85 : Nat) (-2147483648 : Int32)) ∈ lw_all := lw_in (lw_s2 (List.mem_of_getElem? (i := 231) (by decide +kernel))) (by decide +kernel)
theorem kw_541 : (Jvm.Cond.constantLong "FareLimits$Whole" (86 : Nat) (2047 : Int64)) ∈ lw_all := lw_in (lw_s2 (List.mem_of_getElem? (i := 232) (by decide +kernel))) (by decide +kernel)
theorem kw_542 : (Jvm.Cond.constantLong "FareLimits$Whole" (88 : Nat) (8388607 : Int64)) ∈ lw_all := lw_in (lw_s2 (List.mem_of_getElem? (i := 233) (by decide +kernel))) (by decide +kernel)
theorem kw_543 : (Jvm.Cond.methodLink "FareLimitsLaw" (58 : Nat) ({ cls := "FareLimits", name := "gross", desc := "(II)J" } : Jvm.MethodName)) ∈ lw_all := lw_in (lw_s2 (List.mem_of_getElem? (i := 234) (by decide +kernel))) (by decide +kernel)
theorem kw_544 : (Jvm.Cond.instanceMethod ({ cls := "FareLimits", name := "gross", desc := "(II)J" } : Jvm.MethodName)) ∈ lw_all := lw_in (lw_s2 (List.mem_of_getElem? (i := 235) (by decide +kernel))) (by decide +kernel)
theorem kw_545 : (Jvm.Cond.selects "FareLimits" ({ cls := "FareLimits", name := "gross", desc := "(II)J" } : Jvm.MethodName) ({ cls := "FareLimits", name := "gross", desc := "(II)J" } : Jvm.MethodName)) ∈ lw_all := lw_in (lw_s2 (List.mem_of_getElem? (i := 236) (by decide +kernel))) (by decide +kernel)
theorem kw_546 : (Jvm.Cond.code ({ cls := "FareLimits", name := "gross", desc := "(II)J" } : Jvm.MethodName) prog_1_method_13_code (3 : Nat) (Option.some Jvm.ClassFile.FieldType.long)) ∈ lw_all := lw_in (lw_s2 (List.mem_of_getElem? (i := 237) (by decide +kernel))) (by decide +kernel)
theorem kw_547 : (Jvm.Cond.methodLink "FareLimits" (166 : Nat) ({ cls := "FareLimits$Whole", name := "grossOf", desc := "(II)J" } : Jvm.MethodName)) ∈ lw_all := lw_in (lw_s2 (List.mem_of_getElem? (i := 238) (by decide +kernel))) (by decide +kernel)
theorem kw_548 : (Jvm.Cond.instanceMethod ({ cls := "FareLimits$Whole", name := "grossOf", desc := "(II)J" } : Jvm.MethodName)) ∈ lw_all := lw_in (lw_s2 (List.mem_of_getElem? (i := 239) (by decide +kernel))) (by decide +kernel)
theorem kw_549 : (Jvm.Cond.selects "FareLimits$Whole" ({ cls := "FareLimits$Whole", name := "grossOf", desc := "(II)J" } : Jvm.MethodName) ({ cls := "FareLimits$Whole", name := "grossOf", desc := "(II)J" } : Jvm.MethodName)) ∈ lw_all := lw_in (lw_s3 (List.mem_of_getElem? (i := 0) (by decide +kernel))) (by decide +kernel)
theorem kw_550 : (Jvm.Cond.code ({ cls := "FareLimits$Whole", name := "grossOf", desc := "(II)J" } : Jvm.MethodName) prog_11_method_5_code (7 : Nat) (Option.some Jvm.ClassFile.FieldType.long)) ∈ lw_all := lw_in (lw_s3 (List.mem_of_getElem? (i := 1) (by decide +kernel))) (by decide +kernel)
theorem kw_551 : (Jvm.Cond.methodLink "FareLimits$Whole" (27 : Nat) ({ cls := "java/util/Arrays", name := "fill", desc := "([JJ)V" } : Jvm.MethodName)) ∈ lw_all := lw_in (lw_s3 (List.mem_of_getElem? (i := 2) (by decide +kernel))) (by decide +kernel)
theorem kw_552 : (Jvm.Cond.static ({ cls := "java/util/Arrays", name := "fill", desc := "([JJ)V" } : Jvm.MethodName)) ∈ lw_all := lw_in (lw_s3 (List.mem_of_getElem? (i := 3) (by decide +kernel))) (by decide +kernel)
theorem kw_553 : (Jvm.Cond.code ({ cls := "java/util/Arrays", name := "fill", desc := "([JJ)V" } : Jvm.MethodName) prog_28_method_101_code (5 : Nat) (Option.none : Option Jvm.ClassFile.FieldType)) ∈ lw_all := lw_in (lw_s3 (List.mem_of_getElem? (i := 4) (by decide +kernel))) (by decide +kernel)
theorem kt_554 : (Jvm.Cond.methodLinkNest "FareLimits$Whole" (33 : Nat) ({ cls := "FareLimits", name := "phaseOf", desc := "(I)I" } : Jvm.MethodName) "FareLimits") ∈ lw_tbl := lw_s3 (List.mem_of_getElem? (i := 5) (by decide +kernel))
theorem kw_555 : (Jvm.Cond.methodLink "FareLimits$Whole" (37 : Nat) ({ cls := "FareLimits$Whole", name := "nextGross", desc := "(IIJ)J" } : Jvm.MethodName)) ∈ lw_all := lw_in (lw_s3 (List.mem_of_getElem? (i := 6) (by decide +kernel))) (by decide +kernel)
theorem kw_557 : (Jvm.Cond.instanceMethod ({ cls := "FareLimits$Whole", name := "nextGross", desc := "(IIJ)J" } : Jvm.MethodName)) ∈ lw_all := lw_in (lw_s3 (List.mem_of_getElem? (i := 8) (by decide +kernel))) (by decide +kernel)
theorem kw_558 : (Jvm.Cond.code ({ cls := "FareLimits$Whole", name := "nextGross", desc := "(IIJ)J" } : Jvm.MethodName) prog_11_method_6_code (12 : Nat) (Option.some Jvm.ClassFile.FieldType.long)) ∈ lw_all := lw_in (lw_s3 (List.mem_of_getElem? (i := 9) (by decide +kernel))) (by decide +kernel)
theorem kw_559 : (Jvm.Cond.constantLong "FareLimits$Whole" (41 : Nat) (100 : Int64)) ∈ lw_all := lw_in (lw_s3 (List.mem_of_getElem? (i := 10) (by decide +kernel))) (by decide +kernel)
theorem kw_560 : (Jvm.Cond.methodLink "FareLimits$Whole" (23 : Nat) ({ cls := "FareLimits$Whole", name := "times", desc := "(JJ)J" } : Jvm.MethodName)) ∈ lw_all := lw_in (lw_s3 (List.mem_of_getElem? (i := 11) (by decide +kernel))) (by decide +kernel)
theorem kw_561 : (Jvm.Cond.static ({ cls := "FareLimits$Whole", name := "times", desc := "(JJ)J" } : Jvm.MethodName)) ∈ lw_all := lw_in (lw_s3 (List.mem_of_getElem? (i := 12) (by decide +kernel))) (by decide +kernel)
theorem kw_562 : (Jvm.Cond.code ({ cls := "FareLimits$Whole", name := "times", desc := "(JJ)J" } : Jvm.MethodName) prog_11_method_2_code (4 : Nat) (Option.some Jvm.ClassFile.FieldType.long)) ∈ lw_all := lw_in (lw_s3 (List.mem_of_getElem? (i := 13) (by decide +kernel))) (by decide +kernel)
theorem kw_563 : (Jvm.Cond.constantLong "FareLimits$Whole" (19 : Nat) (9223372036854775807 : Int64)) ∈ lw_all := lw_in (lw_s3 (List.mem_of_getElem? (i := 14) (by decide +kernel))) (by decide +kernel)
theorem kw_564 : (Jvm.Cond.constantLong "FareLimits$Whole" (21 : Nat) (-6 : Int64)) ∈ lw_all := lw_in (lw_s3 (List.mem_of_getElem? (i := 15) (by decide +kernel))) (by decide +kernel)
theorem kw_565 : (Jvm.Cond.methodLink "FareLimits$Whole" (62 : Nat) ({ cls := "FareLimits$Whole", name := "plus", desc := "(JJ)J" } : Jvm.MethodName)) ∈ lw_all := lw_in (lw_s3 (List.mem_of_getElem? (i := 16) (by decide +kernel))) (by decide +kernel)
theorem kw_566 : (Jvm.Cond.static ({ cls := "FareLimits$Whole", name := "plus", desc := "(JJ)J" } : Jvm.MethodName)) ∈ lw_all := lw_in (lw_s3 (List.mem_of_getElem? (i := 17) (by decide +kernel))) (by decide +kernel)
theorem kw_567 : (Jvm.Cond.code ({ cls := "FareLimits$Whole", name := "plus", desc := "(JJ)J" } : Jvm.MethodName) prog_11_method_3_code (4 : Nat) (Option.some Jvm.ClassFile.FieldType.long)) ∈ lw_all := lw_in (lw_s3 (List.mem_of_getElem? (i := 18) (by decide +kernel))) (by decide +kernel)
theorem kw_568 : (Jvm.Cond.methodLink "FareLimitsLaw" (62 : Nat) ({ cls := "FareLimits", name := "taken", desc := "(III)I" } : Jvm.MethodName)) ∈ lw_all := lw_in (lw_s3 (List.mem_of_getElem? (i := 19) (by decide +kernel))) (by decide +kernel)
theorem kw_569 : (Jvm.Cond.instanceMethod ({ cls := "FareLimits", name := "taken", desc := "(III)I" } : Jvm.MethodName)) ∈ lw_all := lw_in (lw_s3 (List.mem_of_getElem? (i := 20) (by decide +kernel))) (by decide +kernel)
theorem kw_570 : (Jvm.Cond.selects "FareLimits" ({ cls := "FareLimits", name := "taken", desc := "(III)I" } : Jvm.MethodName) ({ cls := "FareLimits", name := "taken", desc := "(III)I" } : Jvm.MethodName)) ∈ lw_all := lw_in (lw_s3 (List.mem_of_getElem? (i := 21) (by decide +kernel))) (by decide +kernel)
theorem kw_571 : (Jvm.Cond.code ({ cls := "FareLimits", name := "taken", desc := "(III)I" } : Jvm.MethodName) prog_1_method_14_code (4 : Nat) (Option.some Jvm.ClassFile.FieldType.int)) ∈ lw_all := lw_in (lw_s3 (List.mem_of_getElem? (i := 22) (by decide +kernel))) (by decide +kernel)
theorem kw_572 : (Jvm.Cond.methodLink "FareLimits" (170 : Nat) ({ cls := "FareLimits", name := "isStage", desc := "(I)Z" } : Jvm.MethodName)) ∈ lw_all := lw_in (lw_s3 (List.mem_of_getElem? (i := 23) (by decide +kernel))) (by decide +kernel)
theorem kw_573 : (Jvm.Cond.static ({ cls := "FareLimits", name := "isStage", desc := "(I)Z" } : Jvm.MethodName)) ∈ lw_all := lw_in (lw_s3 (List.mem_of_getElem? (i := 24) (by decide +kernel))) (by decide +kernel)
theorem kw_574 : (Jvm.Cond.code ({ cls := "FareLimits", name := "isStage", desc := "(I)Z" } : Jvm.MethodName) prog_1_method_51_code (1 : Nat) (Option.some Jvm.ClassFile.FieldType.boolean)) ∈ lw_all := lw_in (lw_s3 (List.mem_of_getElem? (i := 25) (by decide +kernel))) (by decide +kernel)
theorem kw_575 : (Jvm.Cond.methodLink "FareLimits" (173 : Nat) ({ cls := "FareLimits$Worths", name := "takes", desc := "(III)Z" } : Jvm.MethodName)) ∈ lw_all := lw_in (lw_s3 (List.mem_of_getElem? (i := 26) (by decide +kernel))) (by decide +kernel)
theorem kw_576 : (Jvm.Cond.instanceMethod ({ cls := "FareLimits$Worths", name := "takes", desc := "(III)Z" } : Jvm.MethodName)) ∈ lw_all := lw_in (lw_s3 (List.mem_of_getElem? (i := 27) (by decide +kernel))) (by decide +kernel)
theorem kw_577 : (Jvm.Cond.selects "FareLimits$Worths" ({ cls := "FareLimits$Worths", name := "takes", desc := "(III)Z" } : Jvm.MethodName) ({ cls := "FareLimits$Worths", name := "takes", desc := "(III)Z" } : Jvm.MethodName)) ∈ lw_all := lw_in (lw_s3 (List.mem_of_getElem? (i := 28) (by decide +kernel))) (by decide +kernel)
theorem kw_578 : (Jvm.Cond.code ({ cls := "FareLimits$Worths", name := "takes", desc := "(III)Z" } : Jvm.MethodName) prog_12_method_6_code (7 : Nat) (Option.some Jvm.ClassFile.FieldType.boolean)) ∈ lw_all := lw_in (lw_s3 (List.mem_of_getElem? (i := 29) (by decide +kernel))) (by decide +kernel)
theorem kw_579 : (Jvm.Cond.methodLink "FareLimits$Worths" (74 : Nat) ({ cls := "FareLimits$Worths", name := "row", desc := "(I)[D" } : Jvm.MethodName)) ∈ lw_all := lw_in (lw_s3 (List.mem_of_getElem? (i := 30) (by decide +kernel))) (by decide +kernel)
theorem kw_580 : (Jvm.Cond.methodLink "FareLimitsLaw" (66 : Nat) ({ cls := "FareLimits", name := "kept", desc := "(II)I" } : Jvm.MethodName)) ∈ lw_all := lw_in (lw_s3 (List.mem_of_getElem? (i := 31) (by decide +kernel))) (by decide +kernel)
theorem kw_581 : (Jvm.Cond.instanceMethod ({ cls := "FareLimits", name := "kept", desc := "(II)I" } : Jvm.MethodName)) ∈ lw_all := lw_in (lw_s3 (List.mem_of_getElem? (i := 32) (by decide +kernel))) (by decide +kernel)
theorem kw_582 : (Jvm.Cond.selects "FareLimits" ({ cls := "FareLimits", name := "kept", desc := "(II)I" } : Jvm.MethodName) ({ cls := "FareLimits", name := "kept", desc := "(II)I" } : Jvm.MethodName)) ∈ lw_all := lw_in (lw_s3 (List.mem_of_getElem? (i := 33) (by decide +kernel))) (by decide +kernel)
theorem kw_583 : (Jvm.Cond.code ({ cls := "FareLimits", name := "kept", desc := "(II)I" } : Jvm.MethodName) prog_1_method_15_code (3 : Nat) (Option.some Jvm.ClassFile.FieldType.int)) ∈ lw_all := lw_in (lw_s3 (List.mem_of_getElem? (i := 34) (by decide +kernel))) (by decide +kernel)
theorem kw_584 : (Jvm.Cond.methodLink "FareLimits" (177 : Nat) ({ cls := "FareLimits$Worths", name := "keptFrom", desc := "(II)I" } : Jvm.MethodName)) ∈ lw_all := lw_in (lw_s3 (List.mem_of_getElem? (i := 35) (by decide +kernel))) (by decide +kernel)
theorem kw_585 : (Jvm.Cond.instanceMethod ({ cls := "FareLimits$Worths", name := "keptFrom", desc := "(II)I" } : Jvm.MethodName)) ∈ lw_all := lw_in (lw_s3 (List.mem_of_getElem? (i := 36) (by decide +kernel))) (by decide +kernel)
theorem kw_586 : (Jvm.Cond.selects "FareLimits$Worths" ({ cls := "FareLimits$Worths", name := "keptFrom", desc := "(II)I" } : Jvm.MethodName) ({ cls := "FareLimits$Worths", name := "keptFrom", desc := "(II)I" } : Jvm.MethodName)) ∈ lw_all := lw_in (lw_s3 (List.mem_of_getElem? (i := 37) (by decide +kernel))) (by decide +kernel)
theorem kw_587 : (Jvm.Cond.code ({ cls := "FareLimits$Worths", name := "keptFrom", desc := "(II)I" } : Jvm.MethodName) prog_12_method_7_code (4 : Nat) (Option.some Jvm.ClassFile.FieldType.int)) ∈ lw_all := lw_in (lw_s3 (List.mem_of_getElem? (i := 38) (by decide +kernel))) (by decide +kernel)
theorem kw_588 : (Jvm.Cond.methodLink "FareLimits$Worths" (78 : Nat) ({ cls := "FareLimits$Worths", name := "takes", desc := "(III)Z" } : Jvm.MethodName)) ∈ lw_all := lw_in (lw_s3 (List.mem_of_getElem? (i := 39) (by decide +kernel))) (by decide +kernel)
theorem kw_589 : (Jvm.Cond.methodLink "FareLimitsLaw" (70 : Nat) ({ cls := "FareLimits", name := "limit", desc := "(II)I" } : Jvm.MethodName)) ∈ lw_all := lw_in (lw_s3 (List.mem_of_getElem? (i := 40) (by decide +kernel))) (by decide +kernel)
theorem kw_590 : (Jvm.Cond.instanceMethod ({ cls := "FareLimits", name := "limit", desc := "(II)I" } : Jvm.MethodName)) ∈ lw_all := lw_in (lw_s3 (List.mem_of_getElem? (i := 41) (by decide +kernel))) (by decide +kernel)
theorem kw_591 : (Jvm.Cond.selects "FareLimits" ({ cls := "FareLimits", name := "limit", desc := "(II)I" } : Jvm.MethodName) ({ cls := "FareLimits", name := "limit", desc := "(II)I" } : Jvm.MethodName)) ∈ lw_all := lw_in (lw_s3 (List.mem_of_getElem? (i := 42) (by decide +kernel))) (by decide +kernel)
theorem kw_592 : (Jvm.Cond.code ({ cls := "FareLimits", name := "limit", desc := "(II)I" } : Jvm.MethodName) prog_1_method_16_code (3 : Nat) (Option.some Jvm.ClassFile.FieldType.int)) ∈ lw_all := lw_in (lw_s3 (List.mem_of_getElem? (i := 43) (by decide +kernel))) (by decide +kernel)
theorem kw_593 : (Jvm.Cond.methodLink "FareLimitsLaw" (74 : Nat) ({ cls := "FareLimits", name := "chance", desc := "(III)J" } : Jvm.MethodName)) ∈ lw_all := lw_in (lw_s3 (List.mem_of_getElem? (i := 44) (by decide +kernel))) (by decide +kernel)
theorem kw_594 : (Jvm.Cond.instanceMethod ({ cls := "FareLimits", name := "chance", desc := "(III)J" } : Jvm.MethodName)) ∈ lw_all := lw_in (lw_s3 (List.mem_of_getElem? (i := 45) (by decide +kernel))) (by decide +kernel)
theorem kw_595 : (Jvm.Cond.selects "FareLimits" ({ cls := "FareLimits", name := "chance", desc := "(III)J" } : Jvm.MethodName) ({ cls := "FareLimits", name := "chance", desc := "(III)J" } : Jvm.MethodName)) ∈ lw_all := lw_in (lw_s3 (List.mem_of_getElem? (i := 46) (by decide +kernel))) (by decide +kernel)
theorem kw_596 : (Jvm.Cond.code ({ cls := "FareLimits", name := "chance", desc := "(III)J" } : Jvm.MethodName) prog_1_method_17_code (4 : Nat) (Option.some Jvm.ClassFile.FieldType.long)) ∈ lw_all := lw_in (lw_s3 (List.mem_of_getElem? (i := 47) (by decide +kernel))) (by decide +kernel)
theorem kw_597 : (Jvm.Cond.methodLink "FareLimits" (181 : Nat) ({ cls := "FareLimits$Chances", name := "ofShowing", desc := "(II)[D" } : Jvm.MethodName)) ∈ lw_all := lw_in (lw_s3 (List.mem_of_getElem? (i := 48) (by decide +kernel))) (by decide +kernel)
theorem kw_598 : (Jvm.Cond.instanceMethod ({ cls := "FareLimits$Chances", name := "ofShowing", desc := "(II)[D" } : Jvm.MethodName)) ∈ lw_all := lw_in (lw_s3 (List.mem_of_getElem? (i := 49) (by decide +kernel))) (by decide +kernel)
theorem kw_599 : (Jvm.Cond.selects "FareLimits$Chances" ({ cls := "FareLimits$Chances", name := "ofShowing", desc := "(II)[D" } : Jvm.MethodName) ({ cls := "FareLimits$Chances", name := "ofShowing", desc := "(II)[D" } : Jvm.MethodName)) ∈ lw_all := lw_in (lw_s3 (List.mem_of_getElem? (i := 50) (by decide +kernel))) (by decide +kernel)
theorem kw_600 : (Jvm.Cond.code ({ cls := "FareLimits$Chances", name := "ofShowing", desc := "(II)[D" } : Jvm.MethodName) prog_2_method_2_code (6 : Nat) (Option.some (Jvm.ClassFile.FieldType.array Jvm.ClassFile.FieldType.double))) ∈ lw_all := lw_in (lw_s3 (List.mem_of_getElem? (i := 51) (by decide +kernel))) (by decide +kernel)
theorem kw_601 : (Jvm.Cond.methodLink "FareLimits$Chances" (19 : Nat) ({ cls := "FareLimits$Plan", name := "showing", desc := "(I)D" } : Jvm.MethodName)) ∈ lw_all := lw_in (lw_s3 (List.mem_of_getElem? (i := 52) (by decide +kernel))) (by decide +kernel)
theorem kw_602 : (Jvm.Cond.methodLink "FareLimits$Chances" (25 : Nat) ({ cls := "FareLimits$Chances", name := "begin", desc := "()V" } : Jvm.MethodName)) ∈ lw_all := lw_in (lw_s3 (List.mem_of_getElem? (i := 53) (by decide +kernel))) (by decide +kernel)
theorem kw_604 : (Jvm.Cond.instanceMethod ({ cls := "FareLimits$Chances", name := "begin", desc := "()V" } : Jvm.MethodName)) ∈ lw_all := lw_in (lw_s3 (List.mem_of_getElem? (i := 55) (by decide +kernel))) (by decide +kernel)
theorem kw_605 : (Jvm.Cond.code ({ cls := "FareLimits$Chances", name := "begin", desc := "()V" } : Jvm.MethodName) prog_2_method_4_code (1 : Nat) (Option.none : Option Jvm.ClassFile.FieldType)) ∈ lw_all := lw_in (lw_s3 (List.mem_of_getElem? (i := 56) (by decide +kernel))) (by decide +kernel)
theorem kw_606 : (Jvm.Cond.methodLink "FareLimits$Chances" (48 : Nat) ({ cls := "java/util/Arrays", name := "fill", desc := "([DD)V" } : Jvm.MethodName)) ∈ lw_all := lw_in (lw_s3 (List.mem_of_getElem? (i := 57) (by decide +kernel))) (by decide +kernel)
theorem kw_607 : (Jvm.Cond.static ({ cls := "java/util/Arrays", name := "fill", desc := "([DD)V" } : Jvm.MethodName)) ∈ lw_all := lw_in (lw_s3 (List.mem_of_getElem? (i := 58) (by decide +kernel))) (by decide +kernel)
theorem kw_608 : (Jvm.Cond.code ({ cls := "java/util/Arrays", name := "fill", desc := "([DD)V" } : Jvm.MethodName) prog_28_method_113_code (5 : Nat) (Option.none : Option Jvm.ClassFile.FieldType)) ∈ lw_all := lw_in (lw_s3 (List.mem_of_getElem? (i := 59) (by decide +kernel))) (by decide +kernel)
theorem kw_609 : (Jvm.Cond.methodLink "FareLimits$Chances" (28 : Nat) ({ cls := "FareLimits$Chances", name := "oneMore", desc := "(IDD)V" } : Jvm.MethodName)) ∈ lw_all := lw_in (lw_s3 (List.mem_of_getElem? (i := 60) (by decide +kernel))) (by decide +kernel)
theorem kw_611 : (Jvm.Cond.instanceMethod ({ cls := "FareLimits$Chances", name := "oneMore", desc := "(IDD)V" } : Jvm.MethodName)) ∈ lw_all := lw_in (lw_s3 (List.mem_of_getElem? (i := 62) (by decide +kernel))) (by decide +kernel)
theorem kw_612 : (Jvm.Cond.code ({ cls := "FareLimits$Chances", name := "oneMore", desc := "(IDD)V" } : Jvm.MethodName) prog_2_method_5_code (7 : Nat) (Option.none : Option Jvm.ClassFile.FieldType)) ∈ lw_all := lw_in (lw_s3 (List.mem_of_getElem? (i := 63) (by decide +kernel))) (by decide +kernel)
theorem kw_613 : (Jvm.Cond.methodLink "FareLimitsLaw" (79 : Nat) ({ cls := "FareLimits", name := "turned", desc := "(II)J" } : Jvm.MethodName)) ∈ lw_all := lw_in (lw_s3 (List.mem_of_getElem? (i := 64) (by decide +kernel))) (by decide +kernel)
theorem kw_614 : (Jvm.Cond.instanceMethod ({ cls := "FareLimits", name := "turned", desc := "(II)J" } : Jvm.MethodName)) ∈ lw_all := lw_in (lw_s3 (List.mem_of_getElem? (i := 65) (by decide +kernel))) (by decide +kernel)
theorem kw_615 : (Jvm.Cond.selects "FareLimits" ({ cls := "FareLimits", name := "turned", desc := "(II)J" } : Jvm.MethodName) ({ cls := "FareLimits", name := "turned", desc := "(II)J" } : Jvm.MethodName)) ∈ lw_all := lw_in (lw_s3 (List.mem_of_getElem? (i := 66) (by decide +kernel))) (by decide +kernel)
theorem kw_616 : (Jvm.Cond.code ({ cls := "FareLimits", name := "turned", desc := "(II)J" } : Jvm.MethodName) prog_1_method_18_code (3 : Nat) (Option.some Jvm.ClassFile.FieldType.long)) ∈ lw_all := lw_in (lw_s3 (List.mem_of_getElem? (i := 67) (by decide +kernel))) (by decide +kernel)
theorem kw_617 : (Jvm.Cond.methodLink "FareLimits" (185 : Nat) ({ cls := "FareLimits$Chances", name := "expectedAbove", desc := "(II)D" } : Jvm.MethodName)) ∈ lw_all := lw_in (lw_s3 (List.mem_of_getElem? (i := 68) (by decide +kernel))) (by decide +kernel)
theorem kw_618 : (Jvm.Cond.instanceMethod ({ cls := "FareLimits$Chances", name := "expectedAbove", desc := "(II)D" } : Jvm.MethodName)) ∈ lw_all := lw_in (lw_s3 (List.mem_of_getElem? (i := 69) (by decide +kernel))) (by decide +kernel)
theorem kw_619 : (Jvm.Cond.selects "FareLimits$Chances" ({ cls := "FareLimits$Chances", name := "expectedAbove", desc := "(II)D" } : Jvm.MethodName) ({ cls := "FareLimits$Chances", name := "expectedAbove", desc := "(II)D" } : Jvm.MethodName)) ∈ lw_all := lw_in (lw_s3 (List.mem_of_getElem? (i := 70) (by decide +kernel))) (by decide +kernel)
theorem kw_620 : (Jvm.Cond.code ({ cls := "FareLimits$Chances", name := "expectedAbove", desc := "(II)D" } : Jvm.MethodName) prog_2_method_6_code (6 : Nat) (Option.some Jvm.ClassFile.FieldType.double)) ∈ lw_all := lw_in (lw_s3 (List.mem_of_getElem? (i := 71) (by decide +kernel))) (by decide +kernel)
theorem kw_621 : (Jvm.Cond.methodLink "FareLimitsLaw" (83 : Nat) ({ cls := "FareLimits", name := "had", desc := "(III)J" } : Jvm.MethodName)) ∈ lw_all := lw_in (lw_s3 (List.mem_of_getElem? (i := 72) (by decide +kernel))) (by decide +kernel)
theorem kw_622 : (Jvm.Cond.instanceMethod ({ cls := "FareLimits", name := "had", desc := "(III)J" } : Jvm.MethodName)) ∈ lw_all := lw_in (lw_s3 (List.mem_of_getElem? (i := 73) (by decide +kernel))) (by decide +kernel)
theorem kw_623 : (Jvm.Cond.selects "FareLimits" ({ cls := "FareLimits", name := "had", desc := "(III)J" } : Jvm.MethodName) ({ cls := "FareLimits", name := "had", desc := "(III)J" } : Jvm.MethodName)) ∈ lw_all := lw_in (lw_s3 (List.mem_of_getElem? (i := 74) (by decide +kernel))) (by decide +kernel)
theorem kw_624 : (Jvm.Cond.code ({ cls := "FareLimits", name := "had", desc := "(III)J" } : Jvm.MethodName) prog_1_method_19_code (4 : Nat) (Option.some Jvm.ClassFile.FieldType.long)) ∈ lw_all := lw_in (lw_s3 (List.mem_of_getElem? (i := 75) (by decide +kernel))) (by decide +kernel)
theorem kw_625 : (Jvm.Cond.methodLink "FareLimits" (189 : Nat) ({ cls := "FareLimits$Chances", name := "takings", desc := "(II)D" } : Jvm.MethodName)) ∈ lw_all := lw_in (lw_s3 (List.mem_of_getElem? (i := 76) (by decide +kernel))) (by decide +kernel)
theorem kw_626 : (Jvm.Cond.instanceMethod ({ cls := "FareLimits$Chances", name := "takings", desc := "(II)D" } : Jvm.MethodName)) ∈ lw_all := lw_in (lw_s3 (List.mem_of_getElem? (i := 77) (by decide +kernel))) (by decide +kernel)
theorem kw_627 : (Jvm.Cond.selects "FareLimits$Chances" ({ cls := "FareLimits$Chances", name := "takings", desc := "(II)D" } : Jvm.MethodName) ({ cls := "FareLimits$Chances", name := "takings", desc := "(II)D" } : Jvm.MethodName)) ∈ lw_all := lw_in (lw_s3 (List.mem_of_getElem? (i := 78) (by decide +kernel))) (by decide +kernel)
theorem kw_628 : (Jvm.Cond.code ({ cls := "FareLimits$Chances", name := "takings", desc := "(II)D" } : Jvm.MethodName) prog_2_method_7_code (7 : Nat) (Option.some Jvm.ClassFile.FieldType.double)) ∈ lw_all := lw_in (lw_s3 (List.mem_of_getElem? (i := 79) (by decide +kernel))) (by decide +kernel)
theorem kw_629 : (Jvm.Cond.methodLink "FareLimits$Chances" (57 : Nat) ({ cls := "java/lang/Math", name := "min", desc := "(II)I" } : Jvm.MethodName)) ∈ lw_all := lw_in (lw_s3 (List.mem_of_getElem? (i := 80) (by decide +kernel))) (by decide +kernel)
theorem kw_630 : (Jvm.Cond.static ({ cls := "java/lang/Math", name := "min", desc := "(II)I" } : Jvm.MethodName)) ∈ lw_all := lw_in (lw_s3 (List.mem_of_getElem? (i := 81) (by decide +kernel))) (by decide +kernel)
theorem kw_631 : (Jvm.Cond.code ({ cls := "java/lang/Math", name := "min", desc := "(II)I" } : Jvm.MethodName) prog_21_method_69_code (2 : Nat) (Option.some Jvm.ClassFile.FieldType.int)) ∈ lw_all := lw_in (lw_s3 (List.mem_of_getElem? (i := 82) (by decide +kernel))) (by decide +kernel)
theorem kw_632 : (Jvm.Cond.methodLink "FareLimits$Chances" (67 : Nat) ({ cls := "FareLimits$Chances", name := "expectedAbove", desc := "(II)D" } : Jvm.MethodName)) ∈ lw_all := lw_in (lw_s3 (List.mem_of_getElem? (i := 83) (by decide +kernel))) (by decide +kernel)
theorem kw_633 : (Jvm.Cond.methodLink "FareLimitsLaw" (87 : Nat) ({ cls := "FareLimits", name := "booked", desc := "(II)I" } : Jvm.MethodName)) ∈ lw_all := lw_in (lw_s3 (List.mem_of_getElem? (i := 84) (by decide +kernel))) (by decide +kernel)
theorem kw_634 : (Jvm.Cond.instanceMethod ({ cls := "FareLimits", name := "booked", desc := "(II)I" } : Jvm.MethodName)) ∈ lw_all := lw_in (lw_s3 (List.mem_of_getElem? (i := 85) (by decide +kernel))) (by decide +kernel)
theorem kw_635 : (Jvm.Cond.selects "FareLimits" ({ cls := "FareLimits", name := "booked", desc := "(II)I" } : Jvm.MethodName) ({ cls := "FareLimits", name := "booked", desc := "(II)I" } : Jvm.MethodName)) ∈ lw_all := lw_in (lw_s3 (List.mem_of_getElem? (i := 86) (by decide +kernel))) (by decide +kernel)
theorem kw_636 : (Jvm.Cond.code ({ cls := "FareLimits", name := "booked", desc := "(II)I" } : Jvm.MethodName) prog_1_method_20_code (3 : Nat) (Option.some Jvm.ClassFile.FieldType.int)) ∈ lw_all := lw_in (lw_s3 (List.mem_of_getElem? (i := 87) (by decide +kernel))) (by decide +kernel)
theorem kw_637 : (Jvm.Cond.methodLink "FareLimits" (192 : Nat) ({ cls := "FareLimits$Chances", name := "bestBooked", desc := "(II)I" } : Jvm.MethodName)) ∈ lw_all := lw_in (lw_s3 (List.mem_of_getElem? (i := 88) (by decide +kernel))) (by decide +kernel)
theorem kw_638 : (Jvm.Cond.instanceMethod ({ cls := "FareLimits$Chances", name := "bestBooked", desc := "(II)I" } : Jvm.MethodName)) ∈ lw_all := lw_in (lw_s3 (List.mem_of_getElem? (i := 89) (by decide +kernel))) (by decide +kernel)
theorem kw_639 : (Jvm.Cond.selects "FareLimits$Chances" ({ cls := "FareLimits$Chances", name := "bestBooked", desc := "(II)I" } : Jvm.MethodName) ({ cls := "FareLimits$Chances", name := "bestBooked", desc := "(II)I" } : Jvm.MethodName)) ∈ lw_all := lw_in (lw_s3 (List.mem_of_getElem? (i := 90) (by decide +kernel))) (by decide +kernel)
theorem kw_640 : (Jvm.Cond.code ({ cls := "FareLimits$Chances", name := "bestBooked", desc := "(II)I" } : Jvm.MethodName) prog_2_method_8_code (11 : Nat) (Option.some Jvm.ClassFile.FieldType.int)) ∈ lw_all := lw_in (lw_s3 (List.mem_of_getElem? (i := 91) (by decide +kernel))) (by decide +kernel)
theorem kw_641 : (Jvm.Cond.methodLink "FareLimits$Chances" (71 : Nat) ({ cls := "FareLimits$Chances", name := "takings", desc := "(II)D" } : Jvm.MethodName)) ∈ lw_all := lw_in (lw_s3 (List.mem_of_getElem? (i := 92) (by decide +kernel))) (by decide +kernel)
theorem kw_642 : (Jvm.Cond.methodLink "FareLimitsLaw" (91 : Nat) ({ cls := "FareLimits", name := "ways", desc := "(III)J" } : Jvm.MethodName)) ∈ lw_all := lw_in (lw_s3 (List.mem_of_getElem? (i := 93) (by decide +kernel))) (by decide +kernel)
theorem kw_643 : (Jvm.Cond.instanceMethod ({ cls := "FareLimits", name := "ways", desc := "(III)J" } : Jvm.MethodName)) ∈ lw_all := lw_in (lw_s3 (List.mem_of_getElem? (i := 94) (by decide +kernel))) (by decide +kernel)
theorem kw_644 : (Jvm.Cond.selects "FareLimits" ({ cls := "FareLimits", name := "ways", desc := "(III)J" } : Jvm.MethodName) ({ cls := "FareLimits", name := "ways", desc := "(III)J" } : Jvm.MethodName)) ∈ lw_all := lw_in (lw_s3 (List.mem_of_getElem? (i := 95) (by decide +kernel))) (by decide +kernel)
theorem kw_645 : (Jvm.Cond.code ({ cls := "FareLimits", name := "ways", desc := "(III)J" } : Jvm.MethodName) prog_1_method_21_code (4 : Nat) (Option.some Jvm.ClassFile.FieldType.long)) ∈ lw_all := lw_in (lw_s3 (List.mem_of_getElem? (i := 96) (by decide +kernel))) (by decide +kernel)
theorem kw_646 : (Jvm.Cond.methodLink "FareLimits" (195 : Nat) ({ cls := "FareLimits$Whole", name := "waysOf", desc := "(III)J" } : Jvm.MethodName)) ∈ lw_all := lw_in (lw_s3 (List.mem_of_getElem? (i := 97) (by decide +kernel))) (by decide +kernel)
theorem kw_647 : (Jvm.Cond.instanceMethod ({ cls := "FareLimits$Whole", name := "waysOf", desc := "(III)J" } : Jvm.MethodName)) ∈ lw_all := lw_in (lw_s3 (List.mem_of_getElem? (i := 98) (by decide +kernel))) (by decide +kernel)
theorem kw_648 : (Jvm.Cond.selects "FareLimits$Whole" ({ cls := "FareLimits$Whole", name := "waysOf", desc := "(III)J" } : Jvm.MethodName) ({ cls := "FareLimits$Whole", name := "waysOf", desc := "(III)J" } : Jvm.MethodName)) ∈ lw_all := lw_in (lw_s3 (List.mem_of_getElem? (i := 99) (by decide +kernel))) (by decide +kernel)
theorem kw_649 : (Jvm.Cond.code ({ cls := "FareLimits$Whole", name := "waysOf", desc := "(III)J" } : Jvm.MethodName) prog_11_method_7_code (6 : Nat) (Option.some Jvm.ClassFile.FieldType.long)) ∈ lw_all := lw_in (lw_s3 (List.mem_of_getElem? (i := 100) (by decide +kernel))) (by decide +kernel)
theorem kw_650 : (Jvm.Cond.methodLink "FareLimits$Whole" (65 : Nat) ({ cls := "FareLimits$Whole", name := "setsOf", desc := "(II)J" } : Jvm.MethodName)) ∈ lw_all := lw_in (lw_s3 (List.mem_of_getElem? (i := 101) (by decide +kernel))) (by decide +kernel)
theorem kw_652 : (Jvm.Cond.instanceMethod ({ cls := "FareLimits$Whole", name := "setsOf", desc := "(II)J" } : Jvm.MethodName)) ∈ lw_all := lw_in (lw_s3 (List.mem_of_getElem? (i := 103) (by decide +kernel))) (by decide +kernel)
theorem kw_653 : (Jvm.Cond.code ({ cls := "FareLimits$Whole", name := "setsOf", desc := "(II)J" } : Jvm.MethodName) prog_11_method_8_code (5 : Nat) (Option.some Jvm.ClassFile.FieldType.long)) ∈ lw_all := lw_in (lw_s3 (List.mem_of_getElem? (i := 104) (by decide +kernel))) (by decide +kernel)
theorem kw_654 : (Jvm.Cond.methodLink "FareLimits$Whole" (69 : Nat) ({ cls := "FareLimits$Whole", name := "power", desc := "(JI)J" } : Jvm.MethodName)) ∈ lw_all := lw_in (lw_s3 (List.mem_of_getElem? (i := 105) (by decide +kernel))) (by decide +kernel)
theorem kw_655 : (Jvm.Cond.static ({ cls := "FareLimits$Whole", name := "power", desc := "(JI)J" } : Jvm.MethodName)) ∈ lw_all := lw_in (lw_s3 (List.mem_of_getElem? (i := 106) (by decide +kernel))) (by decide +kernel)
theorem kw_656 : (Jvm.Cond.code ({ cls := "FareLimits$Whole", name := "power", desc := "(JI)J" } : Jvm.MethodName) prog_11_method_4_code (6 : Nat) (Option.some Jvm.ClassFile.FieldType.long)) ∈ lw_all := lw_in (lw_s3 (List.mem_of_getElem? (i := 107) (by decide +kernel))) (by decide +kernel)
theorem kw_657 : (Jvm.Cond.methodLink "FareLimitsLaw" (144 : Nat) ({ cls := "FareLimits", name := "demand", desc := "(III)J" } : Jvm.MethodName)) ∈ lw_all := lw_in (lw_s3 (List.mem_of_getElem? (i := 108) (by decide +kernel))) (by decide +kernel)
theorem kw_658 : (Jvm.Cond.instanceMethod ({ cls := "FareLimits", name := "demand", desc := "(III)J" } : Jvm.MethodName)) ∈ lw_all := lw_in (lw_s3 (List.mem_of_getElem? (i := 109) (by decide +kernel))) (by decide +kernel)
theorem kw_659 : (Jvm.Cond.selects "FareLimits" ({ cls := "FareLimits", name := "demand", desc := "(III)J" } : Jvm.MethodName) ({ cls := "FareLimits", name := "demand", desc := "(III)J" } : Jvm.MethodName)) ∈ lw_all := lw_in (lw_s3 (List.mem_of_getElem? (i := 110) (by decide +kernel))) (by decide +kernel)
theorem kw_660 : (Jvm.Cond.code ({ cls := "FareLimits", name := "demand", desc := "(III)J" } : Jvm.MethodName) prog_1_method_22_code (4 : Nat) (Option.some Jvm.ClassFile.FieldType.long)) ∈ lw_all := lw_in (lw_s3 (List.mem_of_getElem? (i := 111) (by decide +kernel))) (by decide +kernel)
theorem kw_661 : (Jvm.Cond.methodLink "FareLimits" (199 : Nat) ({ cls := "FareLimits$Chances", name := "ofAsking", desc := "(II)[D" } : Jvm.MethodName)) ∈ lw_all := lw_in (lw_s3 (List.mem_of_getElem? (i := 112) (by decide +kernel))) (by decide +kernel)
theorem kw_662 : (Jvm.Cond.instanceMethod ({ cls := "FareLimits$Chances", name := "ofAsking", desc := "(II)[D" } : Jvm.MethodName)) ∈ lw_all := lw_in (lw_s3 (List.mem_of_getElem? (i := 113) (by decide +kernel))) (by decide +kernel)
theorem kw_663 : (Jvm.Cond.selects "FareLimits$Chances" ({ cls := "FareLimits$Chances", name := "ofAsking", desc := "(II)[D" } : Jvm.MethodName) ({ cls := "FareLimits$Chances", name := "ofAsking", desc := "(II)[D" } : Jvm.MethodName)) ∈ lw_all := lw_in (lw_s3 (List.mem_of_getElem? (i := 114) (by decide +kernel))) (by decide +kernel)
theorem kw_664 : (Jvm.Cond.code ({ cls := "FareLimits$Chances", name := "ofAsking", desc := "(II)[D" } : Jvm.MethodName) prog_2_method_3_code (6 : Nat) (Option.some (Jvm.ClassFile.FieldType.array Jvm.ClassFile.FieldType.double))) ∈ lw_all := lw_in (lw_s3 (List.mem_of_getElem? (i := 115) (by decide +kernel))) (by decide +kernel)
theorem kt_665 : (Jvm.Cond.methodLinkNest "FareLimits$Chances" (42 : Nat) ({ cls := "FareLimits", name := "phaseOf", desc := "(I)I" } : Jvm.MethodName) "FareLimits") ∈ lw_tbl := lw_s3 (List.mem_of_getElem? (i := 116) (by decide +kernel))
theorem kw_666 : (Jvm.Cond.constantDouble "FareLimits$Chances" (46 : Nat) (4636737291354636288 : UInt64)) ∈ lw_all := lw_in (lw_s3 (List.mem_of_getElem? (i := 117) (by decide +kernel))) (by decide +kernel)
theorem kw_667 : (Jvm.Cond.methodLink "FareLimitsLaw" (148 : Nat) ({ cls := "FareLimits", name := "spill", desc := "(III)J" } : Jvm.MethodName)) ∈ lw_all := lw_in (lw_s3 (List.mem_of_getElem? (i := 118) (by decide +kernel))) (by decide +kernel)
theorem kw_668 : (Jvm.Cond.instanceMethod ({ cls := "FareLimits", name := "spill", desc := "(III)J" } : Jvm.MethodName)) ∈ lw_all := lw_in (lw_s3 (List.mem_of_getElem? (i := 119) (by decide +kernel))) (by decide +kernel)
theorem kw_669 : (Jvm.Cond.selects "FareLimits" ({ cls := "FareLimits", name := "spill", desc := "(III)J" } : Jvm.MethodName) ({ cls := "FareLimits", name := "spill", desc := "(III)J" } : Jvm.MethodName)) ∈ lw_all := lw_in (lw_s3 (List.mem_of_getElem? (i := 120) (by decide +kernel))) (by decide +kernel)
theorem kw_670 : (Jvm.Cond.code ({ cls := "FareLimits", name := "spill", desc := "(III)J" } : Jvm.MethodName) prog_1_method_23_code (4 : Nat) (Option.some Jvm.ClassFile.FieldType.long)) ∈ lw_all := lw_in (lw_s3 (List.mem_of_getElem? (i := 121) (by decide +kernel))) (by decide +kernel)
theorem kw_671 : (Jvm.Cond.methodLink "FareLimitsLaw" (95 : Nat) ({ cls := "FareLimits", name := "leg", desc := "(III)I" } : Jvm.MethodName)) ∈ lw_all := lw_in (lw_s3 (List.mem_of_getElem? (i := 122) (by decide +kernel))) (by decide +kernel)
theorem kw_672 : (Jvm.Cond.instanceMethod ({ cls := "FareLimits", name := "leg", desc := "(III)I" } : Jvm.MethodName)) ∈ lw_all := lw_in (lw_s3 (List.mem_of_getElem? (i := 123) (by decide +kernel))) (by decide +kernel)
theorem kw_673 : (Jvm.Cond.selects "FareLimits" ({ cls := "FareLimits", name := "leg", desc := "(III)I" } : Jvm.MethodName) ({ cls := "FareLimits", name := "leg", desc := "(III)I" } : Jvm.MethodName)) ∈ lw_all := lw_in (lw_s3 (List.mem_of_getElem? (i := 124) (by decide +kernel))) (by decide +kernel)
theorem kw_674 : (Jvm.Cond.code ({ cls := "FareLimits", name := "leg", desc := "(III)I" } : Jvm.MethodName) prog_1_method_24_code (7 : Nat) (Option.some Jvm.ClassFile.FieldType.int)) ∈ lw_all := lw_in (lw_s3 (List.mem_of_getElem? (i := 125) (by decide +kernel))) (by decide +kernel)
theorem kw_675 : (Jvm.Cond.methodLink "FareLimitsLaw" (99 : Nat) ({ cls := "FareLimits", name := "feed", desc := "(I)I" } : Jvm.MethodName)) ∈ lw_all := lw_in (lw_s3 (List.mem_of_getElem? (i := 126) (by decide +kernel))) (by decide +kernel)
theorem kw_676 : (Jvm.Cond.instanceMethod ({ cls := "FareLimits", name := "feed", desc := "(I)I" } : Jvm.MethodName)) ∈ lw_all := lw_in (lw_s3 (List.mem_of_getElem? (i := 127) (by decide +kernel))) (by decide +kernel)
theorem kw_677 : (Jvm.Cond.selects "FareLimits" ({ cls := "FareLimits", name := "feed", desc := "(I)I" } : Jvm.MethodName) ({ cls := "FareLimits", name := "feed", desc := "(I)I" } : Jvm.MethodName)) ∈ lw_all := lw_in (lw_s3 (List.mem_of_getElem? (i := 128) (by decide +kernel))) (by decide +kernel)
theorem kw_678 : (Jvm.Cond.code ({ cls := "FareLimits", name := "feed", desc := "(I)I" } : Jvm.MethodName) prog_1_method_25_code (2 : Nat) (Option.some Jvm.ClassFile.FieldType.int)) ∈ lw_all := lw_in (lw_s3 (List.mem_of_getElem? (i := 129) (by decide +kernel))) (by decide +kernel)
theorem kw_679 : (Jvm.Cond.methodLink "FareLimits" (214 : Nat) ({ cls := "FareLimits$Tape", name := "takeUp", desc := "(I)Z" } : Jvm.MethodName)) ∈ lw_all := lw_in (lw_s3 (List.mem_of_getElem? (i := 130) (by decide +kernel))) (by decide +kernel)
theorem kw_680 : (Jvm.Cond.instanceMethod ({ cls := "FareLimits$Tape", name := "takeUp", desc := "(I)Z" } : Jvm.MethodName)) ∈ lw_all := lw_in (lw_s3 (List.mem_of_getElem? (i := 131) (by decide +kernel))) (by decide +kernel)
theorem kw_681 : (Jvm.Cond.selects "FareLimits$Tape" ({ cls := "FareLimits$Tape", name := "takeUp", desc := "(I)Z" } : Jvm.MethodName) ({ cls := "FareLimits$Tape", name := "takeUp", desc := "(I)Z" } : Jvm.MethodName)) ∈ lw_all := lw_in (lw_s3 (List.mem_of_getElem? (i := 132) (by decide +kernel))) (by decide +kernel)
theorem kw_682 : (Jvm.Cond.code ({ cls := "FareLimits$Tape", name := "takeUp", desc := "(I)Z" } : Jvm.MethodName) prog_9_method_2_code (2 : Nat) (Option.some Jvm.ClassFile.FieldType.boolean)) ∈ lw_all := lw_in (lw_s3 (List.mem_of_getElem? (i := 133) (by decide +kernel))) (by decide +kernel)
theorem kw_683 : (Jvm.Cond.methodLink "FareLimitsLaw" (104 : Nat) ({ cls := "FareLimits", name := "clear", desc := "()I" } : Jvm.MethodName)) ∈ lw_all := lw_in (lw_s3 (List.mem_of_getElem? (i := 134) (by decide +kernel))) (by decide +kernel)
theorem kw_684 : (Jvm.Cond.instanceMethod ({ cls := "FareLimits", name := "clear", desc := "()I" } : Jvm.MethodName)) ∈ lw_all := lw_in (lw_s3 (List.mem_of_getElem? (i := 135) (by decide +kernel))) (by decide +kernel)
theorem kw_685 : (Jvm.Cond.selects "FareLimits" ({ cls := "FareLimits", name := "clear", desc := "()I" } : Jvm.MethodName) ({ cls := "FareLimits", name := "clear", desc := "()I" } : Jvm.MethodName)) ∈ lw_all := lw_in (lw_s3 (List.mem_of_getElem? (i := 136) (by decide +kernel))) (by decide +kernel)
theorem kw_686 : (Jvm.Cond.code ({ cls := "FareLimits", name := "clear", desc := "()I" } : Jvm.MethodName) prog_1_method_26_code (2 : Nat) (Option.some Jvm.ClassFile.FieldType.int)) ∈ lw_all := lw_in (lw_s3 (List.mem_of_getElem? (i := 137) (by decide +kernel))) (by decide +kernel)
theorem kw_687 : (Jvm.Cond.methodLink "FareLimits" (220 : Nat) ({ cls := "FareLimits$Tape", name := "wipe", desc := "()V" } : Jvm.MethodName)) ∈ lw_all := lw_in (lw_s3 (List.mem_of_getElem? (i := 138) (by decide +kernel))) (by decide +kernel)
theorem kw_688 : (Jvm.Cond.instanceMethod ({ cls := "FareLimits$Tape", name := "wipe", desc := "()V" } : Jvm.MethodName)) ∈ lw_all := lw_in (lw_s3 (List.mem_of_getElem? (i := 139) (by decide +kernel))) (by decide +kernel)
theorem kw_689 : (Jvm.Cond.selects "FareLimits$Tape" ({ cls := "FareLimits$Tape", name := "wipe", desc := "()V" } : Jvm.MethodName) ({ cls := "FareLimits$Tape", name := "wipe", desc := "()V" } : Jvm.MethodName)) ∈ lw_all := lw_in (lw_s3 (List.mem_of_getElem? (i := 140) (by decide +kernel))) (by decide +kernel)
theorem kw_690 : (Jvm.Cond.code ({ cls := "FareLimits$Tape", name := "wipe", desc := "()V" } : Jvm.MethodName) prog_9_method_3_code (1 : Nat) (Option.none : Option Jvm.ClassFile.FieldType)) ∈ lw_all := lw_in (lw_s3 (List.mem_of_getElem? (i := 141) (by decide +kernel))) (by decide +kernel)
theorem kw_691 : (Jvm.Cond.methodLink "FareLimitsLaw" (108 : Nat) ({ cls := "FareLimits", name := "book", desc := "()I" } : Jvm.MethodName)) ∈ lw_all := lw_in (lw_s3 (List.mem_of_getElem? (i := 142) (by decide +kernel))) (by decide +kernel)
theorem kw_692 : (Jvm.Cond.instanceMethod ({ cls := "FareLimits", name := "book", desc := "()I" } : Jvm.MethodName)) ∈ lw_all := lw_in (lw_s3 (List.mem_of_getElem? (i := 143) (by decide +kernel))) (by decide +kernel)
theorem kw_693 : (Jvm.Cond.selects "FareLimits" ({ cls := "FareLimits", name := "book", desc := "()I" } : Jvm.MethodName) ({ cls := "FareLimits", name := "book", desc := "()I" } : Jvm.MethodName)) ∈ lw_all := lw_in (lw_s3 (List.mem_of_getElem? (i := 144) (by decide +kernel))) (by decide +kernel)
theorem kw_694 : (Jvm.Cond.code ({ cls := "FareLimits", name := "book", desc := "()I" } : Jvm.MethodName) prog_1_method_27_code (3 : Nat) (Option.some Jvm.ClassFile.FieldType.int)) ∈ lw_all := lw_in (lw_s3 (List.mem_of_getElem? (i := 145) (by decide +kernel))) (by decide +kernel)
theorem kw_695 : (Jvm.Cond.methodLink "FareLimits" (223 : Nat) ({ cls := "FareLimits$Tape", name := "faultAsBook", desc := "(LFareLimits$Network;)I" } : Jvm.MethodName)) ∈ lw_all := lw_in (lw_s3 (List.mem_of_getElem? (i := 146) (by decide +kernel))) (by decide +kernel)
theorem kw_696 : (Jvm.Cond.instanceMethod ({ cls := "FareLimits$Tape", name := "faultAsBook", desc := "(LFareLimits$Network;)I" } : Jvm.MethodName)) ∈ lw_all := lw_in (lw_s3 (List.mem_of_getElem? (i := 147) (by decide +kernel))) (by decide +kernel)
theorem kw_697 : (Jvm.Cond.selects "FareLimits$Tape" ({ cls := "FareLimits$Tape", name := "faultAsBook", desc := "(LFareLimits$Network;)I" } : Jvm.MethodName) ({ cls := "FareLimits$Tape", name := "faultAsBook", desc := "(LFareLimits$Network;)I" } : Jvm.MethodName)) ∈ lw_all := lw_in (lw_s3 (List.mem_of_getElem? (i := 148) (by decide +kernel))) (by decide +kernel)
theorem kw_698 : (Jvm.Cond.code ({ cls := "FareLimits$Tape", name := "faultAsBook", desc := "(LFareLimits$Network;)I" } : Jvm.MethodName) prog_9_method_8_code (4 : Nat) (Option.some Jvm.ClassFile.FieldType.int)) ∈ lw_all := lw_in (lw_s3 (List.mem_of_getElem? (i := 149) (by decide +kernel))) (by decide +kernel)
theorem kw_699 : (Jvm.Cond.methodLink "FareLimits$Tape" (46 : Nat) ({ cls := "FareLimits$Tape", name := "faultOfPart", desc := "(LFareLimits$Network;)I" } : Jvm.MethodName)) ∈ lw_all := lw_in (lw_s3 (List.mem_of_getElem? (i := 150) (by decide +kernel))) (by decide +kernel)
theorem kw_701 : (Jvm.Cond.instanceMethod ({ cls := "FareLimits$Tape", name := "faultOfPart", desc := "(LFareLimits$Network;)I" } : Jvm.MethodName)) ∈ lw_all := lw_in (lw_s3 (List.mem_of_getElem? (i := 152) (by decide +kernel))) (by decide +kernel)
theorem kw_702 : (Jvm.Cond.code ({ cls := "FareLimits$Tape", name := "faultOfPart", desc := "(LFareLimits$Network;)I" } : Jvm.MethodName) prog_9_method_9_code (3 : Nat) (Option.some Jvm.ClassFile.FieldType.int)) ∈ lw_all := lw_in (lw_s3 (List.mem_of_getElem? (i := 153) (by decide +kernel))) (by decide +kernel)
theorem kw_703 : (Jvm.Cond.methodLink "FareLimits$Tape" (65 : Nat) ({ cls := "FareLimits$Tape", name := "faultOfName", desc := "(LFareLimits$Network;)I" } : Jvm.MethodName)) ∈ lw_all := lw_in (lw_s3 (List.mem_of_getElem? (i := 154) (by decide +kernel))) (by decide +kernel)
theorem kw_705 : (Jvm.Cond.instanceMethod ({ cls := "FareLimits$Tape", name := "faultOfName", desc := "(LFareLimits$Network;)I" } : Jvm.MethodName)) ∈ lw_all := lw_in (lw_s3 (List.mem_of_getElem? (i := 156) (by decide +kernel))) (by decide +kernel)
theorem kw_706 : (Jvm.Cond.code ({ cls := "FareLimits$Tape", name := "faultOfName", desc := "(LFareLimits$Network;)I" } : Jvm.MethodName) prog_9_method_11_code (4 : Nat) (Option.some Jvm.ClassFile.FieldType.int)) ∈ lw_all := lw_in (lw_s3 (List.mem_of_getElem? (i := 157) (by decide +kernel))) (by decide +kernel)
theorem kw_707 : (Jvm.Cond.methodLink "FareLimits$Tape" (25 : Nat) ({ cls := "FareLimits$Tape", name := "byteAt", desc := "(I)I" } : Jvm.MethodName)) ∈ lw_all := lw_in (lw_s3 (List.mem_of_getElem? (i := 158) (by decide +kernel))) (by decide +kernel)
theorem kw_709 : (Jvm.Cond.instanceMethod ({ cls := "FareLimits$Tape", name := "byteAt", desc := "(I)I" } : Jvm.MethodName)) ∈ lw_all := lw_in (lw_s3 (List.mem_of_getElem? (i := 160) (by decide +kernel))) (by decide +kernel)
theorem kw_710 : (Jvm.Cond.code ({ cls := "FareLimits$Tape", name := "byteAt", desc := "(I)I" } : Jvm.MethodName) prog_9_method_4_code (2 : Nat) (Option.some Jvm.ClassFile.FieldType.int)) ∈ lw_all := lw_in (lw_s3 (List.mem_of_getElem? (i := 161) (by decide +kernel))) (by decide +kernel)
theorem kw_711 : (Jvm.Cond.methodLink "FareLimits$Tape" (36 : Nat) ({ cls := "FareLimits$Route", name := "withLetter", desc := "(III)I" } : Jvm.MethodName)) ∈ lw_all := lw_in (lw_s3 (List.mem_of_getElem? (i := 162) (by decide +kernel))) (by decide +kernel)
theorem kw_712 : (Jvm.Cond.static ({ cls := "FareLimits$Route", name := "withLetter", desc := "(III)I" } : Jvm.MethodName)) ∈ lw_all := lw_in (lw_s3 (List.mem_of_getElem? (i := 163) (by decide +kernel))) (by decide +kernel)
theorem kw_713 : (Jvm.Cond.code ({ cls := "FareLimits$Route", name := "withLetter", desc := "(III)I" } : Jvm.MethodName) prog_8_method_2_code (3 : Nat) (Option.some Jvm.ClassFile.FieldType.int)) ∈ lw_all := lw_in (lw_s3 (List.mem_of_getElem? (i := 164) (by decide +kernel))) (by decide +kernel)
theorem kw_714 : (Jvm.Cond.methodLink "FareLimits$Tape" (86 : Nat) ({ cls := "FareLimits$Network", name := "placeOf", desc := "(I)I" } : Jvm.MethodName)) ∈ lw_all := lw_in (lw_s3 (List.mem_of_getElem? (i := 165) (by decide +kernel))) (by decide +kernel)
theorem kw_715 : (Jvm.Cond.instanceMethod ({ cls := "FareLimits$Network", name := "placeOf", desc := "(I)I" } : Jvm.MethodName)) ∈ lw_all := lw_in (lw_s3 (List.mem_of_getElem? (i := 166) (by decide +kernel))) (by decide +kernel)
theorem kw_716 : (Jvm.Cond.selects "FareLimits$Network" ({ cls := "FareLimits$Network", name := "placeOf", desc := "(I)I" } : Jvm.MethodName) ({ cls := "FareLimits$Network", name := "placeOf", desc := "(I)I" } : Jvm.MethodName)) ∈ lw_all := lw_in (lw_s3 (List.mem_of_getElem? (i := 167) (by decide +kernel))) (by decide +kernel)
theorem kw_717 : (Jvm.Cond.code ({ cls := "FareLimits$Network", name := "placeOf", desc := "(I)I" } : Jvm.MethodName) prog_6_method_3_code (3 : Nat) (Option.some Jvm.ClassFile.FieldType.int)) ∈ lw_all := lw_in (lw_s3 (List.mem_of_getElem? (i := 168) (by decide +kernel))) (by decide +kernel)
theorem kw_718 : (Jvm.Cond.methodLink "FareLimits$Tape" (89 : Nat) ({ cls := "FareLimits$Tape", name := "isRead", desc := "(I)Z" } : Jvm.MethodName)) ∈ lw_all := lw_in (lw_s3 (List.mem_of_getElem? (i := 169) (by decide +kernel))) (by decide +kernel)
theorem kw_720 : (Jvm.Cond.instanceMethod ({ cls := "FareLimits$Tape", name := "isRead", desc := "(I)Z" } : Jvm.MethodName)) ∈ lw_all := lw_in (lw_s3 (List.mem_of_getElem? (i := 171) (by decide +kernel))) (by decide +kernel)
theorem kw_721 : (Jvm.Cond.code ({ cls := "FareLimits$Tape", name := "isRead", desc := "(I)Z" } : Jvm.MethodName) prog_9_method_12_code (3 : Nat) (Option.some Jvm.ClassFile.FieldType.boolean)) ∈ lw_all := lw_in (lw_s3 (List.mem_of_getElem? (i := 172) (by decide +kernel))) (by decide +kernel)
theorem kw_722 : (Jvm.Cond.methodLink "FareLimits$Tape" (68 : Nat) ({ cls := "FareLimits$Tape", name := "faultOfSign", desc := "(I)I" } : Jvm.MethodName)) ∈ lw_all := lw_in (lw_s3 (List.mem_of_getElem? (i := 173) (by decide +kernel))) (by decide +kernel)
theorem kw_724 : (Jvm.Cond.instanceMethod ({ cls := "FareLimits$Tape", name := "faultOfSign", desc := "(I)I" } : Jvm.MethodName)) ∈ lw_all := lw_in (lw_s3 (List.mem_of_getElem? (i := 175) (by decide +kernel))) (by decide +kernel)
theorem kw_725 : (Jvm.Cond.code ({ cls := "FareLimits$Tape", name := "faultOfSign", desc := "(I)I" } : Jvm.MethodName) prog_9_method_10_code (2 : Nat) (Option.some Jvm.ClassFile.FieldType.int)) ∈ lw_all := lw_in (lw_s3 (List.mem_of_getElem? (i := 176) (by decide +kernel))) (by decide +kernel)
theorem kw_726 : (Jvm.Cond.methodLink "FareLimits$Tape" (71 : Nat) ({ cls := "FareLimits$Tape", name := "faultOfLegs", desc := "()I" } : Jvm.MethodName)) ∈ lw_all := lw_in (lw_s3 (List.mem_of_getElem? (i := 177) (by decide +kernel))) (by decide +kernel)
theorem kw_728 : (Jvm.Cond.instanceMethod ({ cls := "FareLimits$Tape", name := "faultOfLegs", desc := "()I" } : Jvm.MethodName)) ∈ lw_all := lw_in (lw_s3 (List.mem_of_getElem? (i := 179) (by decide +kernel))) (by decide +kernel)
theorem kw_729 : (Jvm.Cond.code ({ cls := "FareLimits$Tape", name := "faultOfLegs", desc := "()I" } : Jvm.MethodName) prog_9_method_13_code (3 : Nat) (Option.some Jvm.ClassFile.FieldType.int)) ∈ lw_all := lw_in (lw_s3 (List.mem_of_getElem? (i := 180) (by decide +kernel))) (by decide +kernel)
theorem kw_730 : (Jvm.Cond.methodLink "FareLimits$Tape" (75 : Nat) ({ cls := "FareLimits$Tape", name := "faultOfPrice", desc := "()I" } : Jvm.MethodName)) ∈ lw_all := lw_in (lw_s3 (List.mem_of_getElem? (i := 181) (by decide +kernel))) (by decide +kernel)
theorem kw_732 : (Jvm.Cond.instanceMethod ({ cls := "FareLimits$Tape", name := "faultOfPrice", desc := "()I" } : Jvm.MethodName)) ∈ lw_all := lw_in (lw_s3 (List.mem_of_getElem? (i := 183) (by decide +kernel))) (by decide +kernel)
theorem kw_733 : (Jvm.Cond.code ({ cls := "FareLimits$Tape", name := "faultOfPrice", desc := "()I" } : Jvm.MethodName) prog_9_method_14_code (2 : Nat) (Option.some Jvm.ClassFile.FieldType.int)) ∈ lw_all := lw_in (lw_s3 (List.mem_of_getElem? (i := 184) (by decide +kernel))) (by decide +kernel)
theorem kw_734 : (Jvm.Cond.methodLink "FareLimits$Tape" (94 : Nat) ({ cls := "FareLimits$Tape", name := "numberOf", desc := "(I)I" } : Jvm.MethodName)) ∈ lw_all := lw_in (lw_s3 (List.mem_of_getElem? (i := 185) (by decide +kernel))) (by decide +kernel)
theorem kw_736 : (Jvm.Cond.instanceMethod ({ cls := "FareLimits$Tape", name := "numberOf", desc := "(I)I" } : Jvm.MethodName)) ∈ lw_all := lw_in (lw_s3 (List.mem_of_getElem? (i := 187) (by decide +kernel))) (by decide +kernel)
theorem kw_737 : (Jvm.Cond.code ({ cls := "FareLimits$Tape", name := "numberOf", desc := "(I)I" } : Jvm.MethodName) prog_9_method_16_code (4 : Nat) (Option.some Jvm.ClassFile.FieldType.int)) ∈ lw_all := lw_in (lw_s3 (List.mem_of_getElem? (i := 188) (by decide +kernel))) (by decide +kernel)
theorem kw_738 : (Jvm.Cond.methodLink "FareLimits$Tape" (78 : Nat) ({ cls := "FareLimits$Tape", name := "faultOfWanted", desc := "()I" } : Jvm.MethodName)) ∈ lw_all := lw_in (lw_s3 (List.mem_of_getElem? (i := 189) (by decide +kernel))) (by decide +kernel)
theorem kw_740 : (Jvm.Cond.instanceMethod ({ cls := "FareLimits$Tape", name := "faultOfWanted", desc := "()I" } : Jvm.MethodName)) ∈ lw_all := lw_in (lw_s3 (List.mem_of_getElem? (i := 191) (by decide +kernel))) (by decide +kernel)
theorem kw_741 : (Jvm.Cond.code ({ cls := "FareLimits$Tape", name := "faultOfWanted", desc := "()I" } : Jvm.MethodName) prog_9_method_15_code (2 : Nat) (Option.some Jvm.ClassFile.FieldType.int)) ∈ lw_all := lw_in (lw_s3 (List.mem_of_getElem? (i := 192) (by decide +kernel))) (by decide +kernel)
theorem kw_742 : (Jvm.Cond.instantiable "FareLimits$Route" (4 : Nat)) ∈ lw_all := lw_in (lw_s3 (List.mem_of_getElem? (i := 193) (by decide +kernel))) (by decide +kernel)
theorem kw_743 : (Jvm.Cond.methodLink "FareLimits$Tape" (62 : Nat) ({ cls := "FareLimits$Route", name := "<init>", desc := "(IIII)V" } : Jvm.MethodName)) ∈ lw_all := lw_in (lw_s3 (List.mem_of_getElem? (i := 194) (by decide +kernel))) (by decide +kernel)
theorem kw_744 : (Jvm.Cond.instanceMethod ({ cls := "FareLimits$Route", name := "<init>", desc := "(IIII)V" } : Jvm.MethodName)) ∈ lw_all := lw_in (lw_s3 (List.mem_of_getElem? (i := 195) (by decide +kernel))) (by decide +kernel)
theorem kw_745 : (Jvm.Cond.code ({ cls := "FareLimits$Route", name := "<init>", desc := "(IIII)V" } : Jvm.MethodName) prog_8_method_1_code (5 : Nat) (Option.none : Option Jvm.ClassFile.FieldType)) ∈ lw_all := lw_in (lw_s3 (List.mem_of_getElem? (i := 196) (by decide +kernel))) (by decide +kernel)
theorem kw_746 : (Jvm.Cond.methodLink "FareLimits$Route" (3 : Nat) ({ cls := "java/lang/Object", name := "<init>", desc := "()V" } : Jvm.MethodName)) ∈ lw_all := lw_in (lw_s3 (List.mem_of_getElem? (i := 197) (by decide +kernel))) (by decide +kernel)
theorem kw_747 : (Jvm.Cond.fieldLink "FareLimits$Route" (9 : Nat) "FareLimits$Route" "name" "I") ∈ lw_all := lw_in (lw_s3 (List.mem_of_getElem? (i := 198) (by decide +kernel))) (by decide +kernel)
theorem kw_748 : (Jvm.Cond.fieldLink "FareLimits$Network" (34 : Nat) "FareLimits$Route" "name" "I") ∈ lw_all := lw_in (lw_s3 (List.mem_of_getElem? (i := 199) (by decide +kernel))) (by decide +kernel)
theorem kw_749 : (Jvm.Cond.fieldLink "FareLimits$Tape" (93 : Nat) "FareLimits$Route" "name" "I") ∈ lw_all := lw_in (lw_s3 (List.mem_of_getElem? (i := 200) (by decide +kernel))) (by decide +kernel)
theorem kw_750 : (Jvm.Cond.fieldLink "FareLimits$Route" (15 : Nat) "FareLimits$Route" "legs" "I") ∈ lw_all := lw_in (lw_s3 (List.mem_of_getElem? (i := 201) (by decide +kernel))) (by decide +kernel)
theorem kw_751 : (Jvm.Cond.fieldLink "FareLimits" (255 : Nat) "FareLimits$Route" "legs" "I") ∈ lw_all := lw_in (lw_s3 (List.mem_of_getElem? (i := 202) (by decide +kernel))) (by decide +kernel)
theorem kw_752 : (Jvm.Cond.fieldLink "FareLimits$Route" (18 : Nat) "FareLimits$Route" "price" "I") ∈ lw_all := lw_in (lw_s3 (List.mem_of_getElem? (i := 203) (by decide +kernel))) (by decide +kernel)
theorem kw_753 : (Jvm.Cond.fieldLink "FareLimits$Network" (41 : Nat) "FareLimits$Route" "price" "I") ∈ lw_all := lw_in (lw_s3 (List.mem_of_getElem? (i := 204) (by decide +kernel))) (by decide +kernel)
theorem kw_754 : (Jvm.Cond.fieldLink "FareLimits" (260 : Nat) "FareLimits$Route" "price" "I") ∈ lw_all := lw_in (lw_s3 (List.mem_of_getElem? (i := 205) (by decide +kernel))) (by decide +kernel)
theorem kw_755 : (Jvm.Cond.fieldLink "FareLimits$Route" (21 : Nat) "FareLimits$Route" "wanted" "I") ∈ lw_all := lw_in (lw_s3 (List.mem_of_getElem? (i := 206) (by decide +kernel))) (by decide +kernel)
theorem kw_756 : (Jvm.Cond.fieldLink "FareLimits$Network" (48 : Nat) "FareLimits$Route" "wanted" "I") ∈ lw_all := lw_in (lw_s3 (List.mem_of_getElem? (i := 207) (by decide +kernel))) (by decide +kernel)
theorem kw_757 : (Jvm.Cond.fieldLink "FareLimits" (261 : Nat) "FareLimits$Route" "wanted" "I") ∈ lw_all := lw_in (lw_s3 (List.mem_of_getElem? (i := 208) (by decide +kernel))) (by decide +kernel)
theorem kw_758 : (Jvm.Cond.laysFinal "FareLimits$Route" "FareLimits$Route" "name" "I") ∈ lw_all := lw_in (lw_s3 (List.mem_of_getElem? (i := 209) (by decide +kernel))) (by decide +kernel)
theorem kw_760 : (Jvm.Cond.laysFinal "FareLimits$Route" "FareLimits$Route" "legs" "I") ∈ lw_all := lw_in (lw_s3 (List.mem_of_getElem? (i := 211) (by decide +kernel))) (by decide +kernel)
theorem kw_762 : (Jvm.Cond.laysFinal "FareLimits$Route" "FareLimits$Route" "price" "I") ∈ lw_all := lw_in (lw_s3 (List.mem_of_getElem? (i := 213) (by decide +kernel))) (by decide +kernel)
theorem kw_764 : (Jvm.Cond.laysFinal "FareLimits$Route" "FareLimits$Route" "wanted" "I") ∈ lw_all := lw_in (lw_s3 (List.mem_of_getElem? (i := 215) (by decide +kernel))) (by decide +kernel)
theorem kw_766 : (Jvm.Cond.superclass "FareLimits$Route" "java/lang/Object") ∈ lw_all := lw_in (lw_s3 (List.mem_of_getElem? (i := 217) (by decide +kernel))) (by decide +kernel)
theorem kw_767 : (Jvm.Cond.methodLink "FareLimits" (234 : Nat) ({ cls := "FareLimits$Network", name := "add", desc := "(LFareLimits$Route;)V" } : Jvm.MethodName)) ∈ lw_all := lw_in (lw_s3 (List.mem_of_getElem? (i := 218) (by decide +kernel))) (by decide +kernel)
theorem kw_768 : (Jvm.Cond.instanceMethod ({ cls := "FareLimits$Network", name := "add", desc := "(LFareLimits$Route;)V" } : Jvm.MethodName)) ∈ lw_all := lw_in (lw_s3 (List.mem_of_getElem? (i := 219) (by decide +kernel))) (by decide +kernel)
theorem kw_769 : (Jvm.Cond.selects "FareLimits$Network" ({ cls := "FareLimits$Network", name := "add", desc := "(LFareLimits$Route;)V" } : Jvm.MethodName) ({ cls := "FareLimits$Network", name := "add", desc := "(LFareLimits$Route;)V" } : Jvm.MethodName)) ∈ lw_all := lw_in (lw_s3 (List.mem_of_getElem? (i := 220) (by decide +kernel))) (by decide +kernel)
theorem kw_770 : (Jvm.Cond.code ({ cls := "FareLimits$Network", name := "add", desc := "(LFareLimits$Route;)V" } : Jvm.MethodName) prog_6_method_4_code (4 : Nat) (Option.none : Option Jvm.ClassFile.FieldType)) ∈ lw_all := lw_in (lw_s3 (List.mem_of_getElem? (i := 221) (by decide +kernel))) (by decide +kernel)
theorem kw_771 : (Jvm.Cond.methodLink "FareLimitsLaw" (112 : Nat) ({ cls := "FareLimits", name := "ends", desc := "()I" } : Jvm.MethodName)) ∈ lw_all := lw_in (lw_s3 (List.mem_of_getElem? (i := 222) (by decide +kernel))) (by decide +kernel)
theorem kw_772 : (Jvm.Cond.instanceMethod ({ cls := "FareLimits", name := "ends", desc := "()I" } : Jvm.MethodName)) ∈ lw_all := lw_in (lw_s3 (List.mem_of_getElem? (i := 223) (by decide +kernel))) (by decide +kernel)
theorem kw_773 : (Jvm.Cond.selects "FareLimits" ({ cls := "FareLimits", name := "ends", desc := "()I" } : Jvm.MethodName) ({ cls := "FareLimits", name := "ends", desc := "()I" } : Jvm.MethodName)) ∈ lw_all := lw_in (lw_s3 (List.mem_of_getElem? (i := 224) (by decide +kernel))) (by decide +kernel)
theorem kw_774 : (Jvm.Cond.code ({ cls := "FareLimits", name := "ends", desc := "()I" } : Jvm.MethodName) prog_1_method_28_code (2 : Nat) (Option.some Jvm.ClassFile.FieldType.int)) ∈ lw_all := lw_in (lw_s3 (List.mem_of_getElem? (i := 225) (by decide +kernel))) (by decide +kernel)
theorem kw_775 : (Jvm.Cond.methodLink "FareLimits" (238 : Nat) ({ cls := "FareLimits$Tape", name := "asName", desc := "()I" } : Jvm.MethodName)) ∈ lw_all := lw_in (lw_s3 (List.mem_of_getElem? (i := 226) (by decide +kernel))) (by decide +kernel)
theorem kw_776 : (Jvm.Cond.instanceMethod ({ cls := "FareLimits$Tape", name := "asName", desc := "()I" } : Jvm.MethodName)) ∈ lw_all := lw_in (lw_s3 (List.mem_of_getElem? (i := 227) (by decide +kernel))) (by decide +kernel)
theorem kw_777 : (Jvm.Cond.selects "FareLimits$Tape" ({ cls := "FareLimits$Tape", name := "asName", desc := "()I" } : Jvm.MethodName) ({ cls := "FareLimits$Tape", name := "asName", desc := "()I" } : Jvm.MethodName)) ∈ lw_all := lw_in (lw_s3 (List.mem_of_getElem? (i := 228) (by decide +kernel))) (by decide +kernel)
theorem kw_778 : (Jvm.Cond.code ({ cls := "FareLimits$Tape", name := "asName", desc := "()I" } : Jvm.MethodName) prog_9_method_7_code (3 : Nat) (Option.some Jvm.ClassFile.FieldType.int)) ∈ lw_all := lw_in (lw_s3 (List.mem_of_getElem? (i := 229) (by decide +kernel))) (by decide +kernel)
theorem kw_779 : (Jvm.Cond.methodLink "FareLimits" (242 : Nat) ({ cls := "FareLimits$Network", name := "placeOf", desc := "(I)I" } : Jvm.MethodName)) ∈ lw_all := lw_in (lw_s3 (List.mem_of_getElem? (i := 230) (by decide +kernel))) (by decide +kernel)
theorem kw_780 : (Jvm.Cond.methodLink "FareLimits" (245 : Nat) ({ cls := "FareLimits$Network", name := "remove", desc := "(I)V" } : Jvm.MethodName)) ∈ lw_all := lw_in (lw_s3 (List.mem_of_getElem? (i := 231) (by decide +kernel))) (by decide +kernel)
theorem kw_781 : (Jvm.Cond.instanceMethod ({ cls := "FareLimits$Network", name := "remove", desc := "(I)V" } : Jvm.MethodName)) ∈ lw_all := lw_in (lw_s3 (List.mem_of_getElem? (i := 232) (by decide +kernel))) (by decide +kernel)
theorem kw_782 : (Jvm.Cond.selects "FareLimits$Network" ({ cls := "FareLimits$Network", name := "remove", desc := "(I)V" } : Jvm.MethodName) ({ cls := "FareLimits$Network", name := "remove", desc := "(I)V" } : Jvm.MethodName)) ∈ lw_all := lw_in (lw_s3 (List.mem_of_getElem? (i := 233) (by decide +kernel))) (by decide +kernel)
theorem kw_783 : (Jvm.Cond.code ({ cls := "FareLimits$Network", name := "remove", desc := "(I)V" } : Jvm.MethodName) prog_6_method_5_code (3 : Nat) (Option.none : Option Jvm.ClassFile.FieldType)) ∈ lw_all := lw_in (lw_s3 (List.mem_of_getElem? (i := 234) (by decide +kernel))) (by decide +kernel)
theorem kw_784 : (Jvm.Cond.methodLink "FareLimitsLaw" (116 : Nat) ({ cls := "FareLimits", name := "route", desc := "(II)I" } : Jvm.MethodName)) ∈ lw_all := lw_in (lw_s3 (List.mem_of_getElem? (i := 235) (by decide +kernel))) (by decide +kernel)
theorem kw_785 : (Jvm.Cond.instanceMethod ({ cls := "FareLimits", name := "route", desc := "(II)I" } : Jvm.MethodName)) ∈ lw_all := lw_in (lw_s3 (List.mem_of_getElem? (i := 236) (by decide +kernel))) (by decide +kernel)
theorem kw_786 : (Jvm.Cond.selects "FareLimits" ({ cls := "FareLimits", name := "route", desc := "(II)I" } : Jvm.MethodName) ({ cls := "FareLimits", name := "route", desc := "(II)I" } : Jvm.MethodName)) ∈ lw_all := lw_in (lw_s3 (List.mem_of_getElem? (i := 237) (by decide +kernel))) (by decide +kernel)
theorem kw_787 : (Jvm.Cond.code ({ cls := "FareLimits", name := "route", desc := "(II)I" } : Jvm.MethodName) prog_1_method_29_code (4 : Nat) (Option.some Jvm.ClassFile.FieldType.int)) ∈ lw_all := lw_in (lw_s3 (List.mem_of_getElem? (i := 238) (by decide +kernel))) (by decide +kernel)
theorem kw_788 : (Jvm.Cond.methodLink "FareLimits" (264 : Nat) ({ cls := "FareLimits$Network", name := "letsIn", desc := "(LFareLimits$Route;)Z" } : Jvm.MethodName)) ∈ lw_all := lw_in (lw_s3 (List.mem_of_getElem? (i := 239) (by decide +kernel))) (by decide +kernel)
theorem kw_789 : (Jvm.Cond.instanceMethod ({ cls := "FareLimits$Network", name := "letsIn", desc := "(LFareLimits$Route;)Z" } : Jvm.MethodName)) ∈ lw_all := lw_in (lw_s4 (List.mem_of_getElem? (i := 0) (by decide +kernel))) (by decide +kernel)
theorem kw_790 : (Jvm.Cond.selects "FareLimits$Network" ({ cls := "FareLimits$Network", name := "letsIn", desc := "(LFareLimits$Route;)Z" } : Jvm.MethodName) ({ cls := "FareLimits$Network", name := "letsIn", desc := "(LFareLimits$Route;)Z" } : Jvm.MethodName)) ∈ lw_all := lw_in (lw_s4 (List.mem_of_getElem? (i := 1) (by decide +kernel))) (by decide +kernel)
theorem kw_791 : (Jvm.Cond.code ({ cls := "FareLimits$Network", name := "letsIn", desc := "(LFareLimits$Route;)Z" } : Jvm.MethodName) prog_6_method_9_code (5 : Nat) (Option.some Jvm.ClassFile.FieldType.boolean)) ∈ lw_all := lw_in (lw_s4 (List.mem_of_getElem? (i := 2) (by decide +kernel))) (by decide +kernel)
theorem kw_792 : (Jvm.Cond.methodLink "FareLimits$Network" (37 : Nat) ({ cls := "FareLimits$Route", name := "goesOver", desc := "(I)Z" } : Jvm.MethodName)) ∈ lw_all := lw_in (lw_s4 (List.mem_of_getElem? (i := 3) (by decide +kernel))) (by decide +kernel)
theorem kw_793 : (Jvm.Cond.instanceMethod ({ cls := "FareLimits$Route", name := "goesOver", desc := "(I)Z" } : Jvm.MethodName)) ∈ lw_all := lw_in (lw_s4 (List.mem_of_getElem? (i := 4) (by decide +kernel))) (by decide +kernel)
theorem kw_794 : (Jvm.Cond.selects "FareLimits$Route" ({ cls := "FareLimits$Route", name := "goesOver", desc := "(I)Z" } : Jvm.MethodName) ({ cls := "FareLimits$Route", name := "goesOver", desc := "(I)Z" } : Jvm.MethodName)) ∈ lw_all := lw_in (lw_s4 (List.mem_of_getElem? (i := 5) (by decide +kernel))) (by decide +kernel)
theorem kw_795 : (Jvm.Cond.code ({ cls := "FareLimits$Route", name := "goesOver", desc := "(I)Z" } : Jvm.MethodName) prog_8_method_5_code (2 : Nat) (Option.some Jvm.ClassFile.FieldType.boolean)) ∈ lw_all := lw_in (lw_s4 (List.mem_of_getElem? (i := 6) (by decide +kernel))) (by decide +kernel)
theorem kw_796 : (Jvm.Cond.methodLink "FareLimits$Network" (55 : Nat) ({ cls := "FareLimits$Network", name := "costOf", desc := "(I)F" } : Jvm.MethodName)) ∈ lw_all := lw_in (lw_s4 (List.mem_of_getElem? (i := 7) (by decide +kernel))) (by decide +kernel)
theorem kw_797 : (Jvm.Cond.instanceMethod ({ cls := "FareLimits$Network", name := "costOf", desc := "(I)F" } : Jvm.MethodName)) ∈ lw_all := lw_in (lw_s4 (List.mem_of_getElem? (i := 8) (by decide +kernel))) (by decide +kernel)
theorem kw_798 : (Jvm.Cond.selects "FareLimits$Network" ({ cls := "FareLimits$Network", name := "costOf", desc := "(I)F" } : Jvm.MethodName) ({ cls := "FareLimits$Network", name := "costOf", desc := "(I)F" } : Jvm.MethodName)) ∈ lw_all := lw_in (lw_s4 (List.mem_of_getElem? (i := 9) (by decide +kernel))) (by decide +kernel)
theorem kw_799 : (Jvm.Cond.code ({ cls := "FareLimits$Network", name := "costOf", desc := "(I)F" } : Jvm.MethodName) prog_6_method_7_code (6 : Nat) (Option.some Jvm.ClassFile.FieldType.float)) ∈ lw_all := lw_in (lw_s4 (List.mem_of_getElem? (i := 10) (by decide +kernel))) (by decide +kernel)
theorem kw_800 : (Jvm.Cond.methodLink "FareLimits$Network" (44 : Nat) ({ cls := "FareLimits$Network", name := "dearestBut", desc := "(II)I" } : Jvm.MethodName)) ∈ lw_all := lw_in (lw_s4 (List.mem_of_getElem? (i := 11) (by decide +kernel))) (by decide +kernel)
theorem kw_802 : (Jvm.Cond.instanceMethod ({ cls := "FareLimits$Network", name := "dearestBut", desc := "(II)I" } : Jvm.MethodName)) ∈ lw_all := lw_in (lw_s4 (List.mem_of_getElem? (i := 13) (by decide +kernel))) (by decide +kernel)
theorem kw_803 : (Jvm.Cond.code ({ cls := "FareLimits$Network", name := "dearestBut", desc := "(II)I" } : Jvm.MethodName) prog_6_method_8_code (7 : Nat) (Option.some Jvm.ClassFile.FieldType.int)) ∈ lw_all := lw_in (lw_s4 (List.mem_of_getElem? (i := 14) (by decide +kernel))) (by decide +kernel)
theorem kw_804 : (Jvm.Cond.methodLink "FareLimits$Network" (51 : Nat) ({ cls := "FareLimits$Network", name := "partOf", desc := "(LFareLimits$Route;I)F" } : Jvm.MethodName)) ∈ lw_all := lw_in (lw_s4 (List.mem_of_getElem? (i := 15) (by decide +kernel))) (by decide +kernel)
theorem kw_805 : (Jvm.Cond.instanceMethod ({ cls := "FareLimits$Network", name := "partOf", desc := "(LFareLimits$Route;I)F" } : Jvm.MethodName)) ∈ lw_all := lw_in (lw_s4 (List.mem_of_getElem? (i := 16) (by decide +kernel))) (by decide +kernel)
theorem kw_806 : (Jvm.Cond.selects "FareLimits$Network" ({ cls := "FareLimits$Network", name := "partOf", desc := "(LFareLimits$Route;I)F" } : Jvm.MethodName) ({ cls := "FareLimits$Network", name := "partOf", desc := "(LFareLimits$Route;I)F" } : Jvm.MethodName)) ∈ lw_all := lw_in (lw_s4 (List.mem_of_getElem? (i := 17) (by decide +kernel))) (by decide +kernel)
theorem kw_807 : (Jvm.Cond.code ({ cls := "FareLimits$Network", name := "partOf", desc := "(LFareLimits$Route;I)F" } : Jvm.MethodName) prog_6_method_6_code (5 : Nat) (Option.some Jvm.ClassFile.FieldType.float)) ∈ lw_all := lw_in (lw_s4 (List.mem_of_getElem? (i := 18) (by decide +kernel))) (by decide +kernel)
theorem kw_808 : (Jvm.Cond.methodLink "FareLimits" (268 : Nat) ({ cls := "FareLimits$Route", name := "letters", desc := "()I" } : Jvm.MethodName)) ∈ lw_all := lw_in (lw_s4 (List.mem_of_getElem? (i := 19) (by decide +kernel))) (by decide +kernel)
theorem kw_809 : (Jvm.Cond.instanceMethod ({ cls := "FareLimits$Route", name := "letters", desc := "()I" } : Jvm.MethodName)) ∈ lw_all := lw_in (lw_s4 (List.mem_of_getElem? (i := 20) (by decide +kernel))) (by decide +kernel)
theorem kw_810 : (Jvm.Cond.selects "FareLimits$Route" ({ cls := "FareLimits$Route", name := "letters", desc := "()I" } : Jvm.MethodName) ({ cls := "FareLimits$Route", name := "letters", desc := "()I" } : Jvm.MethodName)) ∈ lw_all := lw_in (lw_s4 (List.mem_of_getElem? (i := 21) (by decide +kernel))) (by decide +kernel)
theorem kw_811 : (Jvm.Cond.code ({ cls := "FareLimits$Route", name := "letters", desc := "()I" } : Jvm.MethodName) prog_8_method_4_code (3 : Nat) (Option.some Jvm.ClassFile.FieldType.int)) ∈ lw_all := lw_in (lw_s4 (List.mem_of_getElem? (i := 22) (by decide +kernel))) (by decide +kernel)
theorem kw_812 : (Jvm.Cond.methodLink "FareLimits$Route" (24 : Nat) ({ cls := "FareLimits$Route", name := "letter", desc := "(I)I" } : Jvm.MethodName)) ∈ lw_all := lw_in (lw_s4 (List.mem_of_getElem? (i := 23) (by decide +kernel))) (by decide +kernel)
theorem kw_813 : (Jvm.Cond.instanceMethod ({ cls := "FareLimits$Route", name := "letter", desc := "(I)I" } : Jvm.MethodName)) ∈ lw_all := lw_in (lw_s4 (List.mem_of_getElem? (i := 24) (by decide +kernel))) (by decide +kernel)
theorem kw_814 : (Jvm.Cond.selects "FareLimits$Route" ({ cls := "FareLimits$Route", name := "letter", desc := "(I)I" } : Jvm.MethodName) ({ cls := "FareLimits$Route", name := "letter", desc := "(I)I" } : Jvm.MethodName)) ∈ lw_all := lw_in (lw_s4 (List.mem_of_getElem? (i := 25) (by decide +kernel))) (by decide +kernel)
theorem kw_815 : (Jvm.Cond.code ({ cls := "FareLimits$Route", name := "letter", desc := "(I)I" } : Jvm.MethodName) prog_8_method_3_code (2 : Nat) (Option.some Jvm.ClassFile.FieldType.int)) ∈ lw_all := lw_in (lw_s4 (List.mem_of_getElem? (i := 26) (by decide +kernel))) (by decide +kernel)
theorem kw_816 : (Jvm.Cond.methodLink "FareLimits" (271 : Nat) ({ cls := "FareLimits$Route", name := "letter", desc := "(I)I" } : Jvm.MethodName)) ∈ lw_all := lw_in (lw_s4 (List.mem_of_getElem? (i := 27) (by decide +kernel))) (by decide +kernel)
theorem kw_817 : (Jvm.Cond.methodLink "FareLimitsLaw" (120 : Nat) ({ cls := "FareLimits", name := "part", desc := "(II)I" } : Jvm.MethodName)) ∈ lw_all := lw_in (lw_s4 (List.mem_of_getElem? (i := 28) (by decide +kernel))) (by decide +kernel)
theorem kw_818 : (Jvm.Cond.instanceMethod ({ cls := "FareLimits", name := "part", desc := "(II)I" } : Jvm.MethodName)) ∈ lw_all := lw_in (lw_s4 (List.mem_of_getElem? (i := 29) (by decide +kernel))) (by decide +kernel)
theorem kw_819 : (Jvm.Cond.selects "FareLimits" ({ cls := "FareLimits", name := "part", desc := "(II)I" } : Jvm.MethodName) ({ cls := "FareLimits", name := "part", desc := "(II)I" } : Jvm.MethodName)) ∈ lw_all := lw_in (lw_s4 (List.mem_of_getElem? (i := 30) (by decide +kernel))) (by decide +kernel)
theorem kw_820 : (Jvm.Cond.code ({ cls := "FareLimits", name := "part", desc := "(II)I" } : Jvm.MethodName) prog_1_method_30_code (3 : Nat) (Option.some Jvm.ClassFile.FieldType.int)) ∈ lw_all := lw_in (lw_s4 (List.mem_of_getElem? (i := 31) (by decide +kernel))) (by decide +kernel)
theorem kw_821 : (Jvm.Cond.methodLink "FareLimits" (274 : Nat) ({ cls := "FareLimits$Network", name := "partOf", desc := "(LFareLimits$Route;I)F" } : Jvm.MethodName)) ∈ lw_all := lw_in (lw_s4 (List.mem_of_getElem? (i := 32) (by decide +kernel))) (by decide +kernel)
theorem kw_822 : (Jvm.Cond.methodLink "FareLimitsLaw" (124 : Nat) ({ cls := "FareLimits", name := "cost", desc := "(I)I" } : Jvm.MethodName)) ∈ lw_all := lw_in (lw_s4 (List.mem_of_getElem? (i := 33) (by decide +kernel))) (by decide +kernel)
theorem kw_823 : (Jvm.Cond.instanceMethod ({ cls := "FareLimits", name := "cost", desc := "(I)I" } : Jvm.MethodName)) ∈ lw_all := lw_in (lw_s4 (List.mem_of_getElem? (i := 34) (by decide +kernel))) (by decide +kernel)
theorem kw_824 : (Jvm.Cond.selects "FareLimits" ({ cls := "FareLimits", name := "cost", desc := "(I)I" } : Jvm.MethodName) ({ cls := "FareLimits", name := "cost", desc := "(I)I" } : Jvm.MethodName)) ∈ lw_all := lw_in (lw_s4 (List.mem_of_getElem? (i := 35) (by decide +kernel))) (by decide +kernel)
theorem kw_825 : (Jvm.Cond.code ({ cls := "FareLimits", name := "cost", desc := "(I)I" } : Jvm.MethodName) prog_1_method_31_code (2 : Nat) (Option.some Jvm.ClassFile.FieldType.int)) ∈ lw_all := lw_in (lw_s4 (List.mem_of_getElem? (i := 36) (by decide +kernel))) (by decide +kernel)
theorem kw_826 : (Jvm.Cond.methodLink "FareLimits" (278 : Nat) ({ cls := "FareLimits$Network", name := "costOf", desc := "(I)F" } : Jvm.MethodName)) ∈ lw_all := lw_in (lw_s4 (List.mem_of_getElem? (i := 37) (by decide +kernel))) (by decide +kernel)
theorem kw_827 : (Jvm.Cond.methodLink "FareLimitsLaw" (132 : Nat) ({ cls := "FareLimits", name := "spell", desc := "()I" } : Jvm.MethodName)) ∈ lw_all := lw_in (lw_s4 (List.mem_of_getElem? (i := 38) (by decide +kernel))) (by decide +kernel)
theorem kw_828 : (Jvm.Cond.instanceMethod ({ cls := "FareLimits", name := "spell", desc := "()I" } : Jvm.MethodName)) ∈ lw_all := lw_in (lw_s4 (List.mem_of_getElem? (i := 39) (by decide +kernel))) (by decide +kernel)
theorem kw_829 : (Jvm.Cond.selects "FareLimits" ({ cls := "FareLimits", name := "spell", desc := "()I" } : Jvm.MethodName) ({ cls := "FareLimits", name := "spell", desc := "()I" } : Jvm.MethodName)) ∈ lw_all := lw_in (lw_s4 (List.mem_of_getElem? (i := 40) (by decide +kernel))) (by decide +kernel)
theorem kw_830 : (Jvm.Cond.code ({ cls := "FareLimits", name := "spell", desc := "()I" } : Jvm.MethodName) prog_1_method_32_code (1 : Nat) (Option.some Jvm.ClassFile.FieldType.int)) ∈ lw_all := lw_in (lw_s4 (List.mem_of_getElem? (i := 41) (by decide +kernel))) (by decide +kernel)
theorem kw_831 : (Jvm.Cond.methodLink "FareLimits" (282 : Nat) ({ cls := "FareLimits$Network", name := "spellOn", desc := "(Ljava/lang/StringBuilder;)V" } : Jvm.MethodName)) ∈ lw_all := lw_in (lw_s4 (List.mem_of_getElem? (i := 42) (by decide +kernel))) (by decide +kernel)
theorem kw_832 : (Jvm.Cond.instanceMethod ({ cls := "FareLimits$Network", name := "spellOn", desc := "(Ljava/lang/StringBuilder;)V" } : Jvm.MethodName)) ∈ lw_all := lw_in (lw_s4 (List.mem_of_getElem? (i := 43) (by decide +kernel))) (by decide +kernel)
theorem kw_833 : (Jvm.Cond.selects "FareLimits$Network" ({ cls := "FareLimits$Network", name := "spellOn", desc := "(Ljava/lang/StringBuilder;)V" } : Jvm.MethodName) ({ cls := "FareLimits$Network", name := "spellOn", desc := "(Ljava/lang/StringBuilder;)V" } : Jvm.MethodName)) ∈ lw_all := lw_in (lw_s4 (List.mem_of_getElem? (i := 44) (by decide +kernel))) (by decide +kernel)
theorem kw_834 : (Jvm.Cond.code ({ cls := "FareLimits$Network", name := "spellOn", desc := "(Ljava/lang/StringBuilder;)V" } : Jvm.MethodName) prog_6_method_10_code (3 : Nat) (Option.none : Option Jvm.ClassFile.FieldType)) ∈ lw_all := lw_in (lw_s4 (List.mem_of_getElem? (i := 45) (by decide +kernel))) (by decide +kernel)
theorem kw_835 : (Jvm.Cond.methodLink "FareLimits$Network" (59 : Nat) ({ cls := "java/lang/StringBuilder", name := "setLength", desc := "(I)V" } : Jvm.MethodName)) ∈ lw_all := lw_in (lw_s4 (List.mem_of_getElem? (i := 46) (by decide +kernel))) (by decide +kernel)
theorem kw_836 : (Jvm.Cond.instanceMethod ({ cls := "java/lang/StringBuilder", name := "setLength", desc := "(I)V" } : Jvm.MethodName)) ∈ lw_all := lw_in (lw_s4 (List.mem_of_getElem? (i := 47) (by decide +kernel))) (by decide +kernel)
theorem kw_837 : (Jvm.Cond.selects "java/lang/StringBuilder" ({ cls := "java/lang/StringBuilder", name := "setLength", desc := "(I)V" } : Jvm.MethodName) ({ cls := "java/lang/StringBuilder", name := "setLength", desc := "(I)V" } : Jvm.MethodName)) ∈ lw_all := lw_in (lw_s4 (List.mem_of_getElem? (i := 48) (by decide +kernel))) (by decide +kernel)
theorem kw_838 : (Jvm.Cond.code ({ cls := "java/lang/StringBuilder", name := "setLength", desc := "(I)V" } : Jvm.MethodName) prog_24_method_89_code (2 : Nat) (Option.none : Option Jvm.ClassFile.FieldType)) ∈ lw_all := lw_in (lw_s4 (List.mem_of_getElem? (i := 49) (by decide +kernel))) (by decide +kernel)
theorem kw_839 : (Jvm.Cond.methodLink "java/lang/StringBuilder" (333 : Nat) ({ cls := "java/lang/AbstractStringBuilder", name := "setLength", desc := "(I)V" } : Jvm.MethodName)) ∈ lw_all := lw_in (lw_s4 (List.mem_of_getElem? (i := 50) (by decide +kernel))) (by decide +kernel)
theorem kw_840 : (Jvm.Cond.instanceMethod ({ cls := "java/lang/AbstractStringBuilder", name := "setLength", desc := "(I)V" } : Jvm.MethodName)) ∈ lw_all := lw_in (lw_s4 (List.mem_of_getElem? (i := 51) (by decide +kernel))) (by decide +kernel)
theorem kw_841 : (Jvm.Cond.code ({ cls := "java/lang/AbstractStringBuilder", name := "setLength", desc := "(I)V" } : Jvm.MethodName) prog_15_method_13_code (2 : Nat) (Option.none : Option Jvm.ClassFile.FieldType)) ∈ lw_all := lw_in (lw_s4 (List.mem_of_getElem? (i := 52) (by decide +kernel))) (by decide +kernel)
theorem kw_842 : (Jvm.Cond.methodLink "java/lang/AbstractStringBuilder" (100 : Nat) ({ cls := "java/lang/AbstractStringBuilder", name := "ensureCapacityInternal", desc := "(I)V" } : Jvm.MethodName)) ∈ lw_all := lw_in (lw_s4 (List.mem_of_getElem? (i := 53) (by decide +kernel))) (by decide +kernel)
theorem kw_844 : (Jvm.Cond.instanceMethod ({ cls := "java/lang/AbstractStringBuilder", name := "ensureCapacityInternal", desc := "(I)V" } : Jvm.MethodName)) ∈ lw_all := lw_in (lw_s4 (List.mem_of_getElem? (i := 55) (by decide +kernel))) (by decide +kernel)
theorem kw_845 : (Jvm.Cond.code ({ cls := "java/lang/AbstractStringBuilder", name := "ensureCapacityInternal", desc := "(I)V" } : Jvm.MethodName) prog_15_method_9_code (3 : Nat) (Option.none : Option Jvm.ClassFile.FieldType)) ∈ lw_all := lw_in (lw_s4 (List.mem_of_getElem? (i := 56) (by decide +kernel))) (by decide +kernel)
theorem kw_846 : (Jvm.Cond.methodLink "java/lang/AbstractStringBuilder" (104 : Nat) ({ cls := "java/lang/AbstractStringBuilder", name := "newCapacity", desc := "(I)I" } : Jvm.MethodName)) ∈ lw_all := lw_in (lw_s4 (List.mem_of_getElem? (i := 57) (by decide +kernel))) (by decide +kernel)
theorem kw_848 : (Jvm.Cond.instanceMethod ({ cls := "java/lang/AbstractStringBuilder", name := "newCapacity", desc := "(I)I" } : Jvm.MethodName)) ∈ lw_all := lw_in (lw_s4 (List.mem_of_getElem? (i := 59) (by decide +kernel))) (by decide +kernel)
theorem kw_849 : (Jvm.Cond.code ({ cls := "java/lang/AbstractStringBuilder", name := "newCapacity", desc := "(I)I" } : Jvm.MethodName) prog_15_method_10_code (6 : Nat) (Option.some Jvm.ClassFile.FieldType.int)) ∈ lw_all := lw_in (lw_s4 (List.mem_of_getElem? (i := 60) (by decide +kernel))) (by decide +kernel)
theorem kw_850 : (Jvm.Cond.methodLink "java/lang/AbstractStringBuilder" (114 : Nat) ({ cls := "jdk/internal/util/ArraysSupport", name := "newLength", desc := "(III)I" } : Jvm.MethodName)) ∈ lw_all := lw_in (lw_s4 (List.mem_of_getElem? (i := 61) (by decide +kernel))) (by decide +kernel)
theorem kw_851 : (Jvm.Cond.static ({ cls := "jdk/internal/util/ArraysSupport", name := "newLength", desc := "(III)I" } : Jvm.MethodName)) ∈ lw_all := lw_in (lw_s4 (List.mem_of_getElem? (i := 62) (by decide +kernel))) (by decide +kernel)
theorem kw_852 : (Jvm.Cond.code ({ cls := "jdk/internal/util/ArraysSupport", name := "newLength", desc := "(III)I" } : Jvm.MethodName) prog_29_method_27_code (4 : Nat) (Option.some Jvm.ClassFile.FieldType.int)) ∈ lw_all := lw_in (lw_s4 (List.mem_of_getElem? (i := 63) (by decide +kernel))) (by decide +kernel)
theorem kw_853 : (Jvm.Cond.methodLink "jdk/internal/util/ArraysSupport" (194 : Nat) ({ cls := "java/lang/Math", name := "max", desc := "(II)I" } : Jvm.MethodName)) ∈ lw_all := lw_in (lw_s4 (List.mem_of_getElem? (i := 64) (by decide +kernel))) (by decide +kernel)
theorem kw_854 : (Jvm.Cond.constant "jdk/internal/util/ArraysSupport" (200 : Nat) (2147483639 : Int32)) ∈ lw_all := lw_in (lw_s4 (List.mem_of_getElem? (i := 65) (by decide +kernel))) (by decide +kernel)
theorem kw_855 : (Jvm.Cond.methodLink "jdk/internal/util/ArraysSupport" (201 : Nat) ({ cls := "jdk/internal/util/ArraysSupport", name := "hugeLength", desc := "(II)I" } : Jvm.MethodName)) ∈ lw_all := lw_in (lw_s4 (List.mem_of_getElem? (i := 66) (by decide +kernel))) (by decide +kernel)
theorem kw_856 : (Jvm.Cond.static ({ cls := "jdk/internal/util/ArraysSupport", name := "hugeLength", desc := "(II)I" } : Jvm.MethodName)) ∈ lw_all := lw_in (lw_s4 (List.mem_of_getElem? (i := 67) (by decide +kernel))) (by decide +kernel)
theorem kw_857 : (Jvm.Cond.code ({ cls := "jdk/internal/util/ArraysSupport", name := "hugeLength", desc := "(II)I" } : Jvm.MethodName) prog_29_method_28_code (3 : Nat) (Option.some Jvm.ClassFile.FieldType.int)) ∈ lw_all := lw_in (lw_s4 (List.mem_of_getElem? (i := 68) (by decide +kernel))) (by decide +kernel)
theorem kw_858 : (Jvm.Cond.constant "java/lang/AbstractStringBuilder" (39 : Nat) (2147483647 : Int32)) ∈ lw_all := lw_in (lw_s4 (List.mem_of_getElem? (i := 69) (by decide +kernel))) (by decide +kernel)
theorem kw_859 : (Jvm.Cond.methodLink "java/lang/AbstractStringBuilder" (108 : Nat) ({ cls := "java/util/Arrays", name := "copyOf", desc := "([BI)[B" } : Jvm.MethodName)) ∈ lw_all := lw_in (lw_s4 (List.mem_of_getElem? (i := 70) (by decide +kernel))) (by decide +kernel)
theorem kw_860 : (Jvm.Cond.static ({ cls := "java/util/Arrays", name := "copyOf", desc := "([BI)[B" } : Jvm.MethodName)) ∈ lw_all := lw_in (lw_s4 (List.mem_of_getElem? (i := 71) (by decide +kernel))) (by decide +kernel)
theorem kw_861 : (Jvm.Cond.code ({ cls := "java/util/Arrays", name := "copyOf", desc := "([BI)[B" } : Jvm.MethodName) prog_28_method_121_code (3 : Nat) (Option.some (Jvm.ClassFile.FieldType.array Jvm.ClassFile.FieldType.byte))) ∈ lw_all := lw_in (lw_s4 (List.mem_of_getElem? (i := 72) (by decide +kernel))) (by decide +kernel)
theorem kw_862 : (Jvm.Cond.methodLink "java/util/Arrays" (310 : Nat) ({ cls := "[B", name := "clone", desc := "()Ljava/lang/Object;" } : Jvm.MethodName)) ∈ lw_all := lw_in (lw_s4 (List.mem_of_getElem? (i := 73) (by decide +kernel))) (by decide +kernel)
theorem kw_863 : (Jvm.Cond.sameMethod "[B" "java/lang/Object" "clone" "()Ljava/lang/Object;") ∈ lw_all := lw_in (lw_s4 (List.mem_of_getElem? (i := 74) (by decide +kernel))) (by decide +kernel)
theorem kw_864 : (Jvm.Cond.native ({ cls := "java/lang/Object", name := "clone", desc := "()Ljava/lang/Object;" } : Jvm.MethodName)) ∈ lw_all := lw_in (lw_s4 (List.mem_of_getElem? (i := 75) (by decide +kernel))) (by decide +kernel)
theorem kw_865 : (Jvm.Cond.instanceMethod ({ cls := "java/lang/Object", name := "clone", desc := "()Ljava/lang/Object;" } : Jvm.MethodName)) ∈ lw_all := lw_in (lw_s4 (List.mem_of_getElem? (i := 76) (by decide +kernel))) (by decide +kernel)
theorem kw_866 : (Jvm.Cond.selects "[B" ({ cls := "[B", name := "clone", desc := "()Ljava/lang/Object;" } : Jvm.MethodName) ({ cls := "java/lang/Object", name := "clone", desc := "()Ljava/lang/Object;" } : Jvm.MethodName)) ∈ lw_all := lw_in (lw_s4 (List.mem_of_getElem? (i := 77) (by decide +kernel))) (by decide +kernel)
theorem kt_867 : (Jvm.Cond.castable "[B" "java/lang/Cloneable") ∈ lw_tbl := lw_s4 (List.mem_of_getElem? (i := 78) (by decide +kernel))
theorem kw_868 : (Jvm.Cond.classLink "java/util/Arrays" (311 : Nat) "[B") ∈ lw_all := lw_in (lw_s4 (List.mem_of_getElem? (i := 79) (by decide +kernel))) (by decide +kernel)
theorem kw_869 : (Jvm.Cond.methodLink "java/util/Arrays" (304 : Nat) ({ cls := "java/lang/Math", name := "min", desc := "(II)I" } : Jvm.MethodName)) ∈ lw_all := lw_in (lw_s4 (List.mem_of_getElem? (i := 80) (by decide +kernel))) (by decide +kernel)
theorem kw_870 : (Jvm.Cond.methodLink "java/util/Arrays" (150 : Nat) ({ cls := "java/lang/System", name := "arraycopy", desc := "(Ljava/lang/Object;ILjava/lang/Object;II)V" } : Jvm.MethodName)) ∈ lw_all := lw_in (lw_s4 (List.mem_of_getElem? (i := 81) (by decide +kernel))) (by decide +kernel)
theorem kw_871 : (Jvm.Cond.static ({ cls := "java/lang/System", name := "arraycopy", desc := "(Ljava/lang/Object;ILjava/lang/Object;II)V" } : Jvm.MethodName)) ∈ lw_all := lw_in (lw_s4 (List.mem_of_getElem? (i := 82) (by decide +kernel))) (by decide +kernel)
theorem kw_872 : (Jvm.Cond.native ({ cls := "java/lang/System", name := "arraycopy", desc := "(Ljava/lang/Object;ILjava/lang/Object;II)V" } : Jvm.MethodName)) ∈ lw_all := lw_in (lw_s4 (List.mem_of_getElem? (i := 83) (by decide +kernel))) (by decide +kernel)
theorem kw_873 : (Jvm.Cond.methodLink "java/lang/AbstractStringBuilder" (83 : Nat) ({ cls := "java/lang/AbstractStringBuilder", name := "isLatin1", desc := "()Z" } : Jvm.MethodName)) ∈ lw_all := lw_in (lw_s4 (List.mem_of_getElem? (i := 84) (by decide +kernel))) (by decide +kernel)
theorem kw_874 : (Jvm.Cond.instanceMethod ({ cls := "java/lang/AbstractStringBuilder", name := "isLatin1", desc := "()Z" } : Jvm.MethodName)) ∈ lw_all := lw_in (lw_s4 (List.mem_of_getElem? (i := 85) (by decide +kernel))) (by decide +kernel)
theorem kw_875 : (Jvm.Cond.sameMethod "java/lang/AbstractStringBuilder" "java/lang/AbstractStringBuilder" "isLatin1" "()Z") ∈ lw_all := lw_in (lw_s4 (List.mem_of_getElem? (i := 86) (by decide +kernel))) (by decide +kernel)
theorem kw_876 : (Jvm.Cond.selects "java/lang/StringBuilder" ({ cls := "java/lang/AbstractStringBuilder", name := "isLatin1", desc := "()Z" } : Jvm.MethodName) ({ cls := "java/lang/AbstractStringBuilder", name := "isLatin1", desc := "()Z" } : Jvm.MethodName)) ∈ lw_all := lw_in (lw_s4 (List.mem_of_getElem? (i := 87) (by decide +kernel))) (by decide +kernel)
theorem kw_877 : (Jvm.Cond.code ({ cls := "java/lang/AbstractStringBuilder", name := "isLatin1", desc := "()Z" } : Jvm.MethodName) prog_15_method_68_code (1 : Nat) (Option.some Jvm.ClassFile.FieldType.boolean)) ∈ lw_all := lw_in (lw_s4 (List.mem_of_getElem? (i := 88) (by decide +kernel))) (by decide +kernel)
theorem kw_878 : (Jvm.Cond.methodLink "java/lang/AbstractStringBuilder" (133 : Nat) ({ cls := "java/lang/StringLatin1", name := "fillNull", desc := "([BII)V" } : Jvm.MethodName)) ∈ lw_all := lw_in (lw_s4 (List.mem_of_getElem? (i := 89) (by decide +kernel))) (by decide +kernel)
theorem kw_879 : (Jvm.Cond.static ({ cls := "java/lang/StringLatin1", name := "fillNull", desc := "([BII)V" } : Jvm.MethodName)) ∈ lw_all := lw_in (lw_s4 (List.mem_of_getElem? (i := 90) (by decide +kernel))) (by decide +kernel)
theorem kw_880 : (Jvm.Cond.code ({ cls := "java/lang/StringLatin1", name := "fillNull", desc := "([BII)V" } : Jvm.MethodName) prog_25_method_48_code (3 : Nat) (Option.none : Option Jvm.ClassFile.FieldType)) ∈ lw_all := lw_in (lw_s4 (List.mem_of_getElem? (i := 91) (by decide +kernel))) (by decide +kernel)
theorem kw_881 : (Jvm.Cond.methodLink "java/lang/StringLatin1" (236 : Nat) ({ cls := "java/util/Arrays", name := "fill", desc := "([BIIB)V" } : Jvm.MethodName)) ∈ lw_all := lw_in (lw_s4 (List.mem_of_getElem? (i := 92) (by decide +kernel))) (by decide +kernel)
theorem kw_882 : (Jvm.Cond.static ({ cls := "java/util/Arrays", name := "fill", desc := "([BIIB)V" } : Jvm.MethodName)) ∈ lw_all := lw_in (lw_s4 (List.mem_of_getElem? (i := 93) (by decide +kernel))) (by decide +kernel)
theorem kw_883 : (Jvm.Cond.code ({ cls := "java/util/Arrays", name := "fill", desc := "([BIIB)V" } : Jvm.MethodName) prog_28_method_110_code (5 : Nat) (Option.none : Option Jvm.ClassFile.FieldType)) ∈ lw_all := lw_in (lw_s4 (List.mem_of_getElem? (i := 94) (by decide +kernel))) (by decide +kernel)
theorem kw_884 : (Jvm.Cond.methodLink "java/util/Arrays" (13 : Nat) ({ cls := "java/util/Arrays", name := "rangeCheck", desc := "(III)V" } : Jvm.MethodName)) ∈ lw_all := lw_in (lw_s4 (List.mem_of_getElem? (i := 95) (by decide +kernel))) (by decide +kernel)
theorem kw_885 : (Jvm.Cond.static ({ cls := "java/util/Arrays", name := "rangeCheck", desc := "(III)V" } : Jvm.MethodName)) ∈ lw_all := lw_in (lw_s4 (List.mem_of_getElem? (i := 96) (by decide +kernel))) (by decide +kernel)
theorem kw_886 : (Jvm.Cond.code ({ cls := "java/util/Arrays", name := "rangeCheck", desc := "(III)V" } : Jvm.MethodName) prog_28_method_30_code (3 : Nat) (Option.none : Option Jvm.ClassFile.FieldType)) ∈ lw_all := lw_in (lw_s4 (List.mem_of_getElem? (i := 97) (by decide +kernel))) (by decide +kernel)
theorem kw_887 : (Jvm.Cond.methodLink "java/lang/AbstractStringBuilder" (137 : Nat) ({ cls := "java/lang/StringUTF16", name := "fillNull", desc := "([BII)V" } : Jvm.MethodName)) ∈ lw_all := lw_in (lw_s4 (List.mem_of_getElem? (i := 98) (by decide +kernel))) (by decide +kernel)
theorem kw_888 : (Jvm.Cond.static ({ cls := "java/lang/StringUTF16", name := "fillNull", desc := "([BII)V" } : Jvm.MethodName)) ∈ lw_all := lw_in (lw_s4 (List.mem_of_getElem? (i := 99) (by decide +kernel))) (by decide +kernel)
theorem kw_889 : (Jvm.Cond.code ({ cls := "java/lang/StringUTF16", name := "fillNull", desc := "([BII)V" } : Jvm.MethodName) prog_26_method_70_code (3 : Nat) (Option.none : Option Jvm.ClassFile.FieldType)) ∈ lw_all := lw_in (lw_s4 (List.mem_of_getElem? (i := 100) (by decide +kernel))) (by decide +kernel)
theorem kw_890 : (Jvm.Cond.methodLink "java/lang/StringUTF16" (380 : Nat) ({ cls := "java/util/Arrays", name := "fill", desc := "([BIIB)V" } : Jvm.MethodName)) ∈ lw_all := lw_in (lw_s4 (List.mem_of_getElem? (i := 101) (by decide +kernel))) (by decide +kernel)
theorem kw_891 : (Jvm.Cond.methodLink "FareLimits$Network" (65 : Nat) ({ cls := "java/lang/StringBuilder", name := "append", desc := "(C)Ljava/lang/StringBuilder;" } : Jvm.MethodName)) ∈ lw_all := lw_in (lw_s4 (List.mem_of_getElem? (i := 102) (by decide +kernel))) (by decide +kernel)
theorem kw_892 : (Jvm.Cond.instanceMethod ({ cls := "java/lang/StringBuilder", name := "append", desc := "(C)Ljava/lang/StringBuilder;" } : Jvm.MethodName)) ∈ lw_all := lw_in (lw_s4 (List.mem_of_getElem? (i := 103) (by decide +kernel))) (by decide +kernel)
theorem kw_893 : (Jvm.Cond.selects "java/lang/StringBuilder" ({ cls := "java/lang/StringBuilder", name := "append", desc := "(C)Ljava/lang/StringBuilder;" } : Jvm.MethodName) ({ cls := "java/lang/StringBuilder", name := "append", desc := "(C)Ljava/lang/StringBuilder;" } : Jvm.MethodName)) ∈ lw_all := lw_in (lw_s4 (List.mem_of_getElem? (i := 104) (by decide +kernel))) (by decide +kernel)
theorem kw_894 : (Jvm.Cond.code ({ cls := "java/lang/StringBuilder", name := "append", desc := "(C)Ljava/lang/StringBuilder;" } : Jvm.MethodName) prog_24_method_14_code (2 : Nat) (Option.some (Jvm.ClassFile.FieldType.object "java/lang/StringBuilder"))) ∈ lw_all := lw_in (lw_s4 (List.mem_of_getElem? (i := 105) (by decide +kernel))) (by decide +kernel)
theorem kw_895 : (Jvm.Cond.methodLink "java/lang/StringBuilder" (50 : Nat) ({ cls := "java/lang/AbstractStringBuilder", name := "append", desc := "(C)Ljava/lang/AbstractStringBuilder;" } : Jvm.MethodName)) ∈ lw_all := lw_in (lw_s4 (List.mem_of_getElem? (i := 106) (by decide +kernel))) (by decide +kernel)
theorem kw_896 : (Jvm.Cond.instanceMethod ({ cls := "java/lang/AbstractStringBuilder", name := "append", desc := "(C)Ljava/lang/AbstractStringBuilder;" } : Jvm.MethodName)) ∈ lw_all := lw_in (lw_s4 (List.mem_of_getElem? (i := 107) (by decide +kernel))) (by decide +kernel)
theorem kw_897 : (Jvm.Cond.code ({ cls := "java/lang/AbstractStringBuilder", name := "append", desc := "(C)Ljava/lang/AbstractStringBuilder;" } : Jvm.MethodName) prog_15_method_31_code (2 : Nat) (Option.some (Jvm.ClassFile.FieldType.object "java/lang/AbstractStringBuilder"))) ∈ lw_all := lw_in (lw_s4 (List.mem_of_getElem? (i := 108) (by decide +kernel))) (by decide +kernel)
theorem kw_898 : (Jvm.Cond.methodLink "java/lang/AbstractStringBuilder" (191 : Nat) ({ cls := "java/lang/StringLatin1", name := "canEncode", desc := "(C)Z" } : Jvm.MethodName)) ∈ lw_all := lw_in (lw_s4 (List.mem_of_getElem? (i := 109) (by decide +kernel))) (by decide +kernel)
theorem kw_899 : (Jvm.Cond.static ({ cls := "java/lang/StringLatin1", name := "canEncode", desc := "(C)Z" } : Jvm.MethodName)) ∈ lw_all := lw_in (lw_s4 (List.mem_of_getElem? (i := 110) (by decide +kernel))) (by decide +kernel)
theorem kw_900 : (Jvm.Cond.code ({ cls := "java/lang/StringLatin1", name := "canEncode", desc := "(C)Z" } : Jvm.MethodName) prog_25_method_3_code (1 : Nat) (Option.some Jvm.ClassFile.FieldType.boolean)) ∈ lw_all := lw_in (lw_s4 (List.mem_of_getElem? (i := 111) (by decide +kernel))) (by decide +kernel)
theorem kw_901 : (Jvm.Cond.methodLink "java/lang/AbstractStringBuilder" (195 : Nat) ({ cls := "java/lang/AbstractStringBuilder", name := "inflate", desc := "()V" } : Jvm.MethodName)) ∈ lw_all := lw_in (lw_s4 (List.mem_of_getElem? (i := 112) (by decide +kernel))) (by decide +kernel)
theorem kw_903 : (Jvm.Cond.instanceMethod ({ cls := "java/lang/AbstractStringBuilder", name := "inflate", desc := "()V" } : Jvm.MethodName)) ∈ lw_all := lw_in (lw_s4 (List.mem_of_getElem? (i := 114) (by decide +kernel))) (by decide +kernel)
theorem kw_904 : (Jvm.Cond.code ({ cls := "java/lang/AbstractStringBuilder", name := "inflate", desc := "()V" } : Jvm.MethodName) prog_15_method_11_code (2 : Nat) (Option.none : Option Jvm.ClassFile.FieldType)) ∈ lw_all := lw_in (lw_s4 (List.mem_of_getElem? (i := 115) (by decide +kernel))) (by decide +kernel)
theorem kw_905 : (Jvm.Cond.methodLink "java/lang/AbstractStringBuilder" (125 : Nat) ({ cls := "java/lang/StringLatin1", name := "inflate", desc := "([BI[BII)V" } : Jvm.MethodName)) ∈ lw_all := lw_in (lw_s4 (List.mem_of_getElem? (i := 116) (by decide +kernel))) (by decide +kernel)
theorem kw_906 : (Jvm.Cond.static ({ cls := "java/lang/StringLatin1", name := "inflate", desc := "([BI[BII)V" } : Jvm.MethodName)) ∈ lw_all := lw_in (lw_s4 (List.mem_of_getElem? (i := 117) (by decide +kernel))) (by decide +kernel)
theorem kw_907 : (Jvm.Cond.code ({ cls := "java/lang/StringLatin1", name := "inflate", desc := "([BI[BII)V" } : Jvm.MethodName) prog_25_method_50_code (5 : Nat) (Option.none : Option Jvm.ClassFile.FieldType)) ∈ lw_all := lw_in (lw_s4 (List.mem_of_getElem? (i := 118) (by decide +kernel))) (by decide +kernel)
theorem kw_908 : (Jvm.Cond.methodLink "java/lang/StringLatin1" (240 : Nat) ({ cls := "java/lang/StringUTF16", name := "inflate", desc := "([BI[BII)V" } : Jvm.MethodName)) ∈ lw_all := lw_in (lw_s4 (List.mem_of_getElem? (i := 119) (by decide +kernel))) (by decide +kernel)
theorem kw_909 : (Jvm.Cond.static ({ cls := "java/lang/StringUTF16", name := "inflate", desc := "([BI[BII)V" } : Jvm.MethodName)) ∈ lw_all := lw_in (lw_s4 (List.mem_of_getElem? (i := 120) (by decide +kernel))) (by decide +kernel)
theorem kw_910 : (Jvm.Cond.code ({ cls := "java/lang/StringUTF16", name := "inflate", desc := "([BI[BII)V" } : Jvm.MethodName) prog_26_method_86_code (6 : Nat) (Option.none : Option Jvm.ClassFile.FieldType)) ∈ lw_all := lw_in (lw_s4 (List.mem_of_getElem? (i := 121) (by decide +kernel))) (by decide +kernel)
theorem kw_911 : (Jvm.Cond.methodLink "java/lang/StringUTF16" (173 : Nat) ({ cls := "java/lang/StringUTF16", name := "checkBoundsOffCount", desc := "(II[B)V" } : Jvm.MethodName)) ∈ lw_all := lw_in (lw_s4 (List.mem_of_getElem? (i := 122) (by decide +kernel))) (by decide +kernel)
theorem kw_912 : (Jvm.Cond.static ({ cls := "java/lang/StringUTF16", name := "checkBoundsOffCount", desc := "(II[B)V" } : Jvm.MethodName)) ∈ lw_all := lw_in (lw_s4 (List.mem_of_getElem? (i := 123) (by decide +kernel))) (by decide +kernel)
theorem kw_913 : (Jvm.Cond.code ({ cls := "java/lang/StringUTF16", name := "checkBoundsOffCount", desc := "(II[B)V" } : Jvm.MethodName) prog_26_method_94_code (3 : Nat) (Option.none : Option Jvm.ClassFile.FieldType)) ∈ lw_all := lw_in (lw_s4 (List.mem_of_getElem? (i := 124) (by decide +kernel))) (by decide +kernel)
theorem kw_914 : (Jvm.Cond.methodLink "java/lang/StringUTF16" (48 : Nat) ({ cls := "java/lang/StringUTF16", name := "length", desc := "([B)I" } : Jvm.MethodName)) ∈ lw_all := lw_in (lw_s4 (List.mem_of_getElem? (i := 125) (by decide +kernel))) (by decide +kernel)
theorem kw_915 : (Jvm.Cond.static ({ cls := "java/lang/StringUTF16", name := "length", desc := "([B)I" } : Jvm.MethodName)) ∈ lw_all := lw_in (lw_s4 (List.mem_of_getElem? (i := 126) (by decide +kernel))) (by decide +kernel)
theorem kw_916 : (Jvm.Cond.code ({ cls := "java/lang/StringUTF16", name := "length", desc := "([B)I" } : Jvm.MethodName) prog_26_method_6_code (1 : Nat) (Option.some Jvm.ClassFile.FieldType.int)) ∈ lw_all := lw_in (lw_s4 (List.mem_of_getElem? (i := 127) (by decide +kernel))) (by decide +kernel)
theorem kw_917 : (Jvm.Cond.methodLink "java/lang/StringUTF16" (419 : Nat) ({ cls := "java/lang/String", name := "checkBoundsOffCount", desc := "(III)I" } : Jvm.MethodName)) ∈ lw_all := lw_in (lw_s4 (List.mem_of_getElem? (i := 128) (by decide +kernel))) (by decide +kernel)
theorem kw_918 : (Jvm.Cond.static ({ cls := "java/lang/String", name := "checkBoundsOffCount", desc := "(III)I" } : Jvm.MethodName)) ∈ lw_all := lw_in (lw_s4 (List.mem_of_getElem? (i := 129) (by decide +kernel))) (by decide +kernel)
theorem kw_919 : (Jvm.Cond.code ({ cls := "java/lang/String", name := "checkBoundsOffCount", desc := "(III)I" } : Jvm.MethodName) prog_23_method_157_code (3 : Nat) (Option.some Jvm.ClassFile.FieldType.int)) ∈ lw_all := lw_in (lw_s4 (List.mem_of_getElem? (i := 130) (by decide +kernel))) (by decide +kernel)
theorem kw_920 : (Jvm.Cond.fieldLink "java/lang/String" (1053 : Nat) "jdk/internal/util/Preconditions" "SIOOBE_FORMATTER" "Ljava/util/function/BiFunction;") ∈ lw_all := lw_in (lw_s4 (List.mem_of_getElem? (i := 131) (by decide +kernel))) (by decide +kernel)
theorem kt_921 : (Jvm.Cond.laysStatic "jdk/internal/util/Preconditions" "SIOOBE_FORMATTER" "Ljava/util/function/BiFunction;") ∈ lw_tbl := lw_s4 (List.mem_of_getElem? (i := 132) (by decide +kernel))
theorem kw_922 : (Jvm.Cond.methodLink "java/lang/String" (1065 : Nat) ({ cls := "jdk/internal/util/Preconditions", name := "checkFromIndexSize", desc := "(IIILjava/util/function/BiFunction;)I" } : Jvm.MethodName)) ∈ lw_all := lw_in (lw_s4 (List.mem_of_getElem? (i := 133) (by decide +kernel))) (by decide +kernel)
theorem kw_923 : (Jvm.Cond.static ({ cls := "jdk/internal/util/Preconditions", name := "checkFromIndexSize", desc := "(IIILjava/util/function/BiFunction;)I" } : Jvm.MethodName)) ∈ lw_all := lw_in (lw_s4 (List.mem_of_getElem? (i := 134) (by decide +kernel))) (by decide +kernel)
theorem kw_924 : (Jvm.Cond.code ({ cls := "jdk/internal/util/Preconditions", name := "checkFromIndexSize", desc := "(IIILjava/util/function/BiFunction;)I" } : Jvm.MethodName) prog_30_method_13_code (4 : Nat) (Option.some Jvm.ClassFile.FieldType.int)) ∈ lw_all := lw_in (lw_s4 (List.mem_of_getElem? (i := 135) (by decide +kernel))) (by decide +kernel)
theorem kw_925 : (Jvm.Cond.methodLink "java/lang/StringUTF16" (111 : Nat) ({ cls := "java/lang/StringUTF16", name := "putChar", desc := "([BII)V" } : Jvm.MethodName)) ∈ lw_all := lw_in (lw_s4 (List.mem_of_getElem? (i := 136) (by decide +kernel))) (by decide +kernel)
theorem kw_926 : (Jvm.Cond.static ({ cls := "java/lang/StringUTF16", name := "putChar", desc := "([BII)V" } : Jvm.MethodName)) ∈ lw_all := lw_in (lw_s4 (List.mem_of_getElem? (i := 137) (by decide +kernel))) (by decide +kernel)
theorem kw_927 : (Jvm.Cond.code ({ cls := "java/lang/StringUTF16", name := "putChar", desc := "([BII)V" } : Jvm.MethodName) prog_26_method_4_code (3 : Nat) (Option.none : Option Jvm.ClassFile.FieldType)) ∈ lw_all := lw_in (lw_s4 (List.mem_of_getElem? (i := 138) (by decide +kernel))) (by decide +kernel)
theorem kw_928 : (Jvm.Cond.fieldLink "java/lang/StringUTF16" (44 : Nat) "java/lang/StringUTF16" "$assertionsDisabled" "Z") ∈ lw_all := lw_in (lw_s4 (List.mem_of_getElem? (i := 139) (by decide +kernel))) (by decide +kernel)
theorem kt_929 : (Jvm.Cond.laysStatic "java/lang/StringUTF16" "$assertionsDisabled" "Z") ∈ lw_tbl := lw_s4 (List.mem_of_getElem? (i := 140) (by decide +kernel))
theorem kw_930 : (Jvm.Cond.fieldLink "java/lang/StringUTF16" (59 : Nat) "java/lang/StringUTF16" "HI_BYTE_SHIFT" "I") ∈ lw_all := lw_in (lw_s4 (List.mem_of_getElem? (i := 141) (by decide +kernel))) (by decide +kernel)
theorem kt_931 : (Jvm.Cond.laysStatic "java/lang/StringUTF16" "HI_BYTE_SHIFT" "I") ∈ lw_tbl := lw_s4 (List.mem_of_getElem? (i := 142) (by decide +kernel))
theorem kw_932 : (Jvm.Cond.fieldLink "java/lang/StringUTF16" (63 : Nat) "java/lang/StringUTF16" "LO_BYTE_SHIFT" "I") ∈ lw_all := lw_in (lw_s4 (List.mem_of_getElem? (i := 143) (by decide +kernel))) (by decide +kernel)
theorem kt_933 : (Jvm.Cond.laysStatic "java/lang/StringUTF16" "LO_BYTE_SHIFT" "I") ∈ lw_tbl := lw_s4 (List.mem_of_getElem? (i := 144) (by decide +kernel))
theorem kw_934 : (Jvm.Cond.methodLink "java/lang/AbstractStringBuilder" (197 : Nat) ({ cls := "java/lang/StringUTF16", name := "putCharSB", desc := "([BII)V" } : Jvm.MethodName)) ∈ lw_all := lw_in (lw_s4 (List.mem_of_getElem? (i := 145) (by decide +kernel))) (by decide +kernel)
theorem kw_935 : (Jvm.Cond.static ({ cls := "java/lang/StringUTF16", name := "putCharSB", desc := "([BII)V" } : Jvm.MethodName)) ∈ lw_all := lw_in (lw_s4 (List.mem_of_getElem? (i := 146) (by decide +kernel))) (by decide +kernel)
theorem kw_936 : (Jvm.Cond.code ({ cls := "java/lang/StringUTF16", name := "putCharSB", desc := "([BII)V" } : Jvm.MethodName) prog_26_method_71_code (3 : Nat) (Option.none : Option Jvm.ClassFile.FieldType)) ∈ lw_all := lw_in (lw_s4 (List.mem_of_getElem? (i := 147) (by decide +kernel))) (by decide +kernel)
theorem kw_937 : (Jvm.Cond.methodLink "java/lang/StringUTF16" (67 : Nat) ({ cls := "java/lang/StringUTF16", name := "checkIndex", desc := "(I[B)V" } : Jvm.MethodName)) ∈ lw_all := lw_in (lw_s4 (List.mem_of_getElem? (i := 148) (by decide +kernel))) (by decide +kernel)
theorem kw_938 : (Jvm.Cond.static ({ cls := "java/lang/StringUTF16", name := "checkIndex", desc := "(I[B)V" } : Jvm.MethodName)) ∈ lw_all := lw_in (lw_s4 (List.mem_of_getElem? (i := 149) (by decide +kernel))) (by decide +kernel)
theorem kw_939 : (Jvm.Cond.code ({ cls := "java/lang/StringUTF16", name := "checkIndex", desc := "(I[B)V" } : Jvm.MethodName) prog_26_method_91_code (2 : Nat) (Option.none : Option Jvm.ClassFile.FieldType)) ∈ lw_all := lw_in (lw_s4 (List.mem_of_getElem? (i := 150) (by decide +kernel))) (by decide +kernel)
theorem kw_940 : (Jvm.Cond.methodLink "java/lang/StringUTF16" (414 : Nat) ({ cls := "java/lang/String", name := "checkIndex", desc := "(II)V" } : Jvm.MethodName)) ∈ lw_all := lw_in (lw_s4 (List.mem_of_getElem? (i := 151) (by decide +kernel))) (by decide +kernel)
theorem kw_941 : (Jvm.Cond.static ({ cls := "java/lang/String", name := "checkIndex", desc := "(II)V" } : Jvm.MethodName)) ∈ lw_all := lw_in (lw_s4 (List.mem_of_getElem? (i := 152) (by decide +kernel))) (by decide +kernel)
theorem kw_942 : (Jvm.Cond.code ({ cls := "java/lang/String", name := "checkIndex", desc := "(II)V" } : Jvm.MethodName) prog_23_method_155_code (2 : Nat) (Option.none : Option Jvm.ClassFile.FieldType)) ∈ lw_all := lw_in (lw_s4 (List.mem_of_getElem? (i := 153) (by decide +kernel))) (by decide +kernel)
theorem kw_943 : (Jvm.Cond.methodLink "java/lang/String" (1059 : Nat) ({ cls := "jdk/internal/util/Preconditions", name := "checkIndex", desc := "(IILjava/util/function/BiFunction;)I" } : Jvm.MethodName)) ∈ lw_all := lw_in (lw_s4 (List.mem_of_getElem? (i := 154) (by decide +kernel))) (by decide +kernel)
theorem kw_944 : (Jvm.Cond.static ({ cls := "jdk/internal/util/Preconditions", name := "checkIndex", desc := "(IILjava/util/function/BiFunction;)I" } : Jvm.MethodName)) ∈ lw_all := lw_in (lw_s4 (List.mem_of_getElem? (i := 155) (by decide +kernel))) (by decide +kernel)
theorem kw_945 : (Jvm.Cond.code ({ cls := "jdk/internal/util/Preconditions", name := "checkIndex", desc := "(IILjava/util/function/BiFunction;)I" } : Jvm.MethodName) prog_30_method_11_code (3 : Nat) (Option.some Jvm.ClassFile.FieldType.int)) ∈ lw_all := lw_in (lw_s4 (List.mem_of_getElem? (i := 156) (by decide +kernel))) (by decide +kernel)
theorem kw_946 : (Jvm.Cond.methodLink "FareLimits$Network" (69 : Nat) ({ cls := "FareLimits$Network", name := "spellRoute", desc := "(Ljava/lang/StringBuilder;LFareLimits$Route;)V" } : Jvm.MethodName)) ∈ lw_all := lw_in (lw_s4 (List.mem_of_getElem? (i := 157) (by decide +kernel))) (by decide +kernel)
theorem kw_948 : (Jvm.Cond.instanceMethod ({ cls := "FareLimits$Network", name := "spellRoute", desc := "(Ljava/lang/StringBuilder;LFareLimits$Route;)V" } : Jvm.MethodName)) ∈ lw_all := lw_in (lw_s4 (List.mem_of_getElem? (i := 159) (by decide +kernel))) (by decide +kernel)
theorem kw_949 : (Jvm.Cond.code ({ cls := "FareLimits$Network", name := "spellRoute", desc := "(Ljava/lang/StringBuilder;LFareLimits$Route;)V" } : Jvm.MethodName) prog_6_method_11_code (4 : Nat) (Option.none : Option Jvm.ClassFile.FieldType)) ∈ lw_all := lw_in (lw_s4 (List.mem_of_getElem? (i := 160) (by decide +kernel))) (by decide +kernel)
theorem kw_950 : (Jvm.Cond.methodLink "FareLimits$Network" (73 : Nat) ({ cls := "FareLimits$Route", name := "letters", desc := "()I" } : Jvm.MethodName)) ∈ lw_all := lw_in (lw_s4 (List.mem_of_getElem? (i := 161) (by decide +kernel))) (by decide +kernel)
theorem kw_951 : (Jvm.Cond.methodLink "FareLimits$Network" (77 : Nat) ({ cls := "FareLimits$Route", name := "letter", desc := "(I)I" } : Jvm.MethodName)) ∈ lw_all := lw_in (lw_s4 (List.mem_of_getElem? (i := 162) (by decide +kernel))) (by decide +kernel)
theorem kw_952 : (Jvm.Cond.methodLink "FareLimits$Network" (81 : Nat) ({ cls := "java/lang/StringBuilder", name := "append", desc := "(I)Ljava/lang/StringBuilder;" } : Jvm.MethodName)) ∈ lw_all := lw_in (lw_s4 (List.mem_of_getElem? (i := 163) (by decide +kernel))) (by decide +kernel)
theorem kw_953 : (Jvm.Cond.instanceMethod ({ cls := "java/lang/StringBuilder", name := "append", desc := "(I)Ljava/lang/StringBuilder;" } : Jvm.MethodName)) ∈ lw_all := lw_in (lw_s4 (List.mem_of_getElem? (i := 164) (by decide +kernel))) (by decide +kernel)
theorem kw_954 : (Jvm.Cond.selects "java/lang/StringBuilder" ({ cls := "java/lang/StringBuilder", name := "append", desc := "(I)Ljava/lang/StringBuilder;" } : Jvm.MethodName) ({ cls := "java/lang/StringBuilder", name := "append", desc := "(I)Ljava/lang/StringBuilder;" } : Jvm.MethodName)) ∈ lw_all := lw_in (lw_s4 (List.mem_of_getElem? (i := 165) (by decide +kernel))) (by decide +kernel)
theorem kw_955 : (Jvm.Cond.code ({ cls := "java/lang/StringBuilder", name := "append", desc := "(I)Ljava/lang/StringBuilder;" } : Jvm.MethodName) prog_24_method_15_code (2 : Nat) (Option.some (Jvm.ClassFile.FieldType.object "java/lang/StringBuilder"))) ∈ lw_all := lw_in (lw_s4 (List.mem_of_getElem? (i := 166) (by decide +kernel))) (by decide +kernel)
theorem kw_956 : (Jvm.Cond.methodLink "java/lang/StringBuilder" (53 : Nat) ({ cls := "java/lang/AbstractStringBuilder", name := "append", desc := "(I)Ljava/lang/AbstractStringBuilder;" } : Jvm.MethodName)) ∈ lw_all := lw_in (lw_s4 (List.mem_of_getElem? (i := 167) (by decide +kernel))) (by decide +kernel)
theorem kw_957 : (Jvm.Cond.instanceMethod ({ cls := "java/lang/AbstractStringBuilder", name := "append", desc := "(I)Ljava/lang/AbstractStringBuilder;" } : Jvm.MethodName)) ∈ lw_all := lw_in (lw_s4 (List.mem_of_getElem? (i := 168) (by decide +kernel))) (by decide +kernel)
theorem kw_958 : (Jvm.Cond.code ({ cls := "java/lang/AbstractStringBuilder", name := "append", desc := "(I)Ljava/lang/AbstractStringBuilder;" } : Jvm.MethodName) prog_15_method_32_code (4 : Nat) (Option.some (Jvm.ClassFile.FieldType.object "java/lang/AbstractStringBuilder"))) ∈ lw_all := lw_in (lw_s4 (List.mem_of_getElem? (i := 169) (by decide +kernel))) (by decide +kernel)
theorem kw_959 : (Jvm.Cond.methodLink "java/lang/AbstractStringBuilder" (245 : Nat) ({ cls := "java/lang/Integer", name := "stringSize", desc := "(I)I" } : Jvm.MethodName)) ∈ lw_all := lw_in (lw_s4 (List.mem_of_getElem? (i := 170) (by decide +kernel))) (by decide +kernel)
theorem kw_960 : (Jvm.Cond.static ({ cls := "java/lang/Integer", name := "stringSize", desc := "(I)I" } : Jvm.MethodName)) ∈ lw_all := lw_in (lw_s4 (List.mem_of_getElem? (i := 171) (by decide +kernel))) (by decide +kernel)
theorem kw_961 : (Jvm.Cond.code ({ cls := "java/lang/Integer", name := "stringSize", desc := "(I)I" } : Jvm.MethodName) prog_20_method_13_code (4 : Nat) (Option.some Jvm.ClassFile.FieldType.int)) ∈ lw_all := lw_in (lw_s4 (List.mem_of_getElem? (i := 172) (by decide +kernel))) (by decide +kernel)
theorem kw_962 : (Jvm.Cond.methodLink "java/lang/AbstractStringBuilder" (248 : Nat) ({ cls := "java/lang/Integer", name := "getChars", desc := "(II[B)I" } : Jvm.MethodName)) ∈ lw_all := lw_in (lw_s4 (List.mem_of_getElem? (i := 173) (by decide +kernel))) (by decide +kernel)
theorem kw_963 : (Jvm.Cond.static ({ cls := "java/lang/Integer", name := "getChars", desc := "(II[B)I" } : Jvm.MethodName)) ∈ lw_all := lw_in (lw_s4 (List.mem_of_getElem? (i := 174) (by decide +kernel))) (by decide +kernel)
theorem kw_964 : (Jvm.Cond.code ({ cls := "java/lang/Integer", name := "getChars", desc := "(II[B)I" } : Jvm.MethodName) prog_20_method_12_code (7 : Nat) (Option.some Jvm.ClassFile.FieldType.int)) ∈ lw_all := lw_in (lw_s4 (List.mem_of_getElem? (i := 175) (by decide +kernel))) (by decide +kernel)
theorem kw_965 : (Jvm.Cond.fieldLink "java/lang/Integer" (83 : Nat) "java/lang/Integer" "DigitOnes" "[B") ∈ lw_all := lw_in (lw_s4 (List.mem_of_getElem? (i := 176) (by decide +kernel))) (by decide +kernel)
theorem kt_966 : (Jvm.Cond.laysStatic "java/lang/Integer" "DigitOnes" "[B") ∈ lw_tbl := lw_s4 (List.mem_of_getElem? (i := 177) (by decide +kernel))
theorem kw_967 : (Jvm.Cond.fieldLink "java/lang/Integer" (87 : Nat) "java/lang/Integer" "DigitTens" "[B") ∈ lw_all := lw_in (lw_s4 (List.mem_of_getElem? (i := 178) (by decide +kernel))) (by decide +kernel)
theorem kt_968 : (Jvm.Cond.laysStatic "java/lang/Integer" "DigitTens" "[B") ∈ lw_tbl := lw_s4 (List.mem_of_getElem? (i := 179) (by decide +kernel))
theorem kw_969 : (Jvm.Cond.methodLink "java/lang/AbstractStringBuilder" (251 : Nat) ({ cls := "java/lang/StringUTF16", name := "getChars", desc := "(III[B)I" } : Jvm.MethodName)) ∈ lw_all := lw_in (lw_s4 (List.mem_of_getElem? (i := 180) (by decide +kernel))) (by decide +kernel)
theorem kw_970 : (Jvm.Cond.static ({ cls := "java/lang/StringUTF16", name := "getChars", desc := "(III[B)I" } : Jvm.MethodName)) ∈ lw_all := lw_in (lw_s4 (List.mem_of_getElem? (i := 181) (by decide +kernel))) (by decide +kernel)
theorem kw_971 : (Jvm.Cond.code ({ cls := "java/lang/StringUTF16", name := "getChars", desc := "(III[B)I" } : Jvm.MethodName) prog_26_method_77_code (5 : Nat) (Option.some Jvm.ClassFile.FieldType.int)) ∈ lw_all := lw_in (lw_s4 (List.mem_of_getElem? (i := 182) (by decide +kernel))) (by decide +kernel)
theorem kw_972 : (Jvm.Cond.methodLink "java/lang/StringUTF16" (96 : Nat) ({ cls := "java/lang/StringUTF16", name := "checkBoundsBeginEnd", desc := "(II[B)V" } : Jvm.MethodName)) ∈ lw_all := lw_in (lw_s4 (List.mem_of_getElem? (i := 183) (by decide +kernel))) (by decide +kernel)
theorem kw_973 : (Jvm.Cond.static ({ cls := "java/lang/StringUTF16", name := "checkBoundsBeginEnd", desc := "(II[B)V" } : Jvm.MethodName)) ∈ lw_all := lw_in (lw_s4 (List.mem_of_getElem? (i := 184) (by decide +kernel))) (by decide +kernel)
theorem kw_974 : (Jvm.Cond.code ({ cls := "java/lang/StringUTF16", name := "checkBoundsBeginEnd", desc := "(II[B)V" } : Jvm.MethodName) prog_26_method_93_code (3 : Nat) (Option.none : Option Jvm.ClassFile.FieldType)) ∈ lw_all := lw_in (lw_s4 (List.mem_of_getElem? (i := 185) (by decide +kernel))) (by decide +kernel)
theorem kw_975 : (Jvm.Cond.methodLink "java/lang/StringUTF16" (241 : Nat) ({ cls := "java/lang/String", name := "checkBoundsBeginEnd", desc := "(III)V" } : Jvm.MethodName)) ∈ lw_all := lw_in (lw_s4 (List.mem_of_getElem? (i := 186) (by decide +kernel))) (by decide +kernel)
theorem kw_976 : (Jvm.Cond.static ({ cls := "java/lang/String", name := "checkBoundsBeginEnd", desc := "(III)V" } : Jvm.MethodName)) ∈ lw_all := lw_in (lw_s4 (List.mem_of_getElem? (i := 187) (by decide +kernel))) (by decide +kernel)
theorem kw_977 : (Jvm.Cond.code ({ cls := "java/lang/String", name := "checkBoundsBeginEnd", desc := "(III)V" } : Jvm.MethodName) prog_23_method_158_code (3 : Nat) (Option.none : Option Jvm.ClassFile.FieldType)) ∈ lw_all := lw_in (lw_s4 (List.mem_of_getElem? (i := 188) (by decide +kernel))) (by decide +kernel)
theorem kw_978 : (Jvm.Cond.methodLink "java/lang/String" (1062 : Nat) ({ cls := "jdk/internal/util/Preconditions", name := "checkFromToIndex", desc := "(IIILjava/util/function/BiFunction;)I" } : Jvm.MethodName)) ∈ lw_all := lw_in (lw_s4 (List.mem_of_getElem? (i := 189) (by decide +kernel))) (by decide +kernel)
theorem kw_979 : (Jvm.Cond.static ({ cls := "jdk/internal/util/Preconditions", name := "checkFromToIndex", desc := "(IIILjava/util/function/BiFunction;)I" } : Jvm.MethodName)) ∈ lw_all := lw_in (lw_s4 (List.mem_of_getElem? (i := 190) (by decide +kernel))) (by decide +kernel)
theorem kw_980 : (Jvm.Cond.code ({ cls := "jdk/internal/util/Preconditions", name := "checkFromToIndex", desc := "(IIILjava/util/function/BiFunction;)I" } : Jvm.MethodName) prog_30_method_12_code (4 : Nat) (Option.some Jvm.ClassFile.FieldType.int)) ∈ lw_all := lw_in (lw_s4 (List.mem_of_getElem? (i := 191) (by decide +kernel))) (by decide +kernel)
theorem kw_981 : (Jvm.Cond.methodLink "java/lang/StringUTF16" (393 : Nat) ({ cls := "java/lang/StringUTF16", name := "getChars", desc := "(II[B)I" } : Jvm.MethodName)) ∈ lw_all := lw_in (lw_s4 (List.mem_of_getElem? (i := 192) (by decide +kernel))) (by decide +kernel)
theorem kw_982 : (Jvm.Cond.static ({ cls := "java/lang/StringUTF16", name := "getChars", desc := "(II[B)I" } : Jvm.MethodName)) ∈ lw_all := lw_in (lw_s4 (List.mem_of_getElem? (i := 193) (by decide +kernel))) (by decide +kernel)
theorem kw_983 : (Jvm.Cond.code ({ cls := "java/lang/StringUTF16", name := "getChars", desc := "(II[B)I" } : Jvm.MethodName) prog_26_method_89_code (7 : Nat) (Option.some Jvm.ClassFile.FieldType.int)) ∈ lw_all := lw_in (lw_s4 (List.mem_of_getElem? (i := 194) (by decide +kernel))) (by decide +kernel)
theorem kw_984 : (Jvm.Cond.fieldLink "java/lang/StringUTF16" (403 : Nat) "java/lang/Integer" "DigitOnes" "[B") ∈ lw_all := lw_in (lw_s4 (List.mem_of_getElem? (i := 195) (by decide +kernel))) (by decide +kernel)
theorem kw_985 : (Jvm.Cond.fieldLink "java/lang/StringUTF16" (407 : Nat) "java/lang/Integer" "DigitTens" "[B") ∈ lw_all := lw_in (lw_s4 (List.mem_of_getElem? (i := 196) (by decide +kernel))) (by decide +kernel)
theorem kw_986 : (Jvm.Cond.methodLink "FareLimits" (286 : Nat) ({ cls := "java/lang/StringBuilder", name := "length", desc := "()I" } : Jvm.MethodName)) ∈ lw_all := lw_in (lw_s4 (List.mem_of_getElem? (i := 197) (by decide +kernel))) (by decide +kernel)
theorem kw_987 : (Jvm.Cond.instanceMethod ({ cls := "java/lang/StringBuilder", name := "length", desc := "()I" } : Jvm.MethodName)) ∈ lw_all := lw_in (lw_s4 (List.mem_of_getElem? (i := 198) (by decide +kernel))) (by decide +kernel)
theorem kw_988 : (Jvm.Cond.selects "java/lang/StringBuilder" ({ cls := "java/lang/StringBuilder", name := "length", desc := "()I" } : Jvm.MethodName) ({ cls := "java/lang/StringBuilder", name := "length", desc := "()I" } : Jvm.MethodName)) ∈ lw_all := lw_in (lw_s4 (List.mem_of_getElem? (i := 199) (by decide +kernel))) (by decide +kernel)
theorem kw_989 : (Jvm.Cond.code ({ cls := "java/lang/StringBuilder", name := "length", desc := "()I" } : Jvm.MethodName) prog_24_method_93_code (1 : Nat) (Option.some Jvm.ClassFile.FieldType.int)) ∈ lw_all := lw_in (lw_s4 (List.mem_of_getElem? (i := 200) (by decide +kernel))) (by decide +kernel)
theorem kw_990 : (Jvm.Cond.methodLink "java/lang/StringBuilder" (343 : Nat) ({ cls := "java/lang/AbstractStringBuilder", name := "length", desc := "()I" } : Jvm.MethodName)) ∈ lw_all := lw_in (lw_s4 (List.mem_of_getElem? (i := 201) (by decide +kernel))) (by decide +kernel)
theorem kw_991 : (Jvm.Cond.instanceMethod ({ cls := "java/lang/AbstractStringBuilder", name := "length", desc := "()I" } : Jvm.MethodName)) ∈ lw_all := lw_in (lw_s4 (List.mem_of_getElem? (i := 202) (by decide +kernel))) (by decide +kernel)
theorem kw_992 : (Jvm.Cond.code ({ cls := "java/lang/AbstractStringBuilder", name := "length", desc := "()I" } : Jvm.MethodName) prog_15_method_6_code (1 : Nat) (Option.some Jvm.ClassFile.FieldType.int)) ∈ lw_all := lw_in (lw_s4 (List.mem_of_getElem? (i := 203) (by decide +kernel))) (by decide +kernel)
theorem kw_993 : (Jvm.Cond.methodLink "FareLimitsLaw" (136 : Nat) ({ cls := "FareLimits", name := "paper", desc := "(I)I" } : Jvm.MethodName)) ∈ lw_all := lw_in (lw_s4 (List.mem_of_getElem? (i := 204) (by decide +kernel))) (by decide +kernel)
theorem kw_994 : (Jvm.Cond.instanceMethod ({ cls := "FareLimits", name := "paper", desc := "(I)I" } : Jvm.MethodName)) ∈ lw_all := lw_in (lw_s4 (List.mem_of_getElem? (i := 205) (by decide +kernel))) (by decide +kernel)
theorem kw_995 : (Jvm.Cond.selects "FareLimits" ({ cls := "FareLimits", name := "paper", desc := "(I)I" } : Jvm.MethodName) ({ cls := "FareLimits", name := "paper", desc := "(I)I" } : Jvm.MethodName)) ∈ lw_all := lw_in (lw_s4 (List.mem_of_getElem? (i := 206) (by decide +kernel))) (by decide +kernel)
theorem kw_996 : (Jvm.Cond.code ({ cls := "FareLimits", name := "paper", desc := "(I)I" } : Jvm.MethodName) prog_1_method_33_code (2 : Nat) (Option.some Jvm.ClassFile.FieldType.int)) ∈ lw_all := lw_in (lw_s4 (List.mem_of_getElem? (i := 207) (by decide +kernel))) (by decide +kernel)
theorem kw_997 : (Jvm.Cond.methodLink "FareLimits" (289 : Nat) ({ cls := "java/lang/StringBuilder", name := "charAt", desc := "(I)C" } : Jvm.MethodName)) ∈ lw_all := lw_in (lw_s4 (List.mem_of_getElem? (i := 208) (by decide +kernel))) (by decide +kernel)
theorem kw_998 : (Jvm.Cond.instanceMethod ({ cls := "java/lang/StringBuilder", name := "charAt", desc := "(I)C" } : Jvm.MethodName)) ∈ lw_all := lw_in (lw_s4 (List.mem_of_getElem? (i := 209) (by decide +kernel))) (by decide +kernel)
theorem kw_999 : (Jvm.Cond.selects "java/lang/StringBuilder" ({ cls := "java/lang/StringBuilder", name := "charAt", desc := "(I)C" } : Jvm.MethodName) ({ cls := "java/lang/StringBuilder", name := "charAt", desc := "(I)C" } : Jvm.MethodName)) ∈ lw_all := lw_in (lw_s4 (List.mem_of_getElem? (i := 210) (by decide +kernel))) (by decide +kernel)
theorem kw_1000 : (Jvm.Cond.code ({ cls := "java/lang/StringBuilder", name := "charAt", desc := "(I)C" } : Jvm.MethodName) prog_24_method_88_code (2 : Nat) (Option.some Jvm.ClassFile.FieldType.char)) ∈ lw_all := lw_in (lw_s4 (List.mem_of_getElem? (i := 211) (by decide +kernel))) (by decide +kernel)
theorem kw_1001 : (Jvm.Cond.methodLink "java/lang/StringBuilder" (329 : Nat) ({ cls := "java/lang/AbstractStringBuilder", name := "charAt", desc := "(I)C" } : Jvm.MethodName)) ∈ lw_all := lw_in (lw_s4 (List.mem_of_getElem? (i := 212) (by decide +kernel))) (by decide +kernel)
theorem kw_1002 : (Jvm.Cond.instanceMethod ({ cls := "java/lang/AbstractStringBuilder", name := "charAt", desc := "(I)C" } : Jvm.MethodName)) ∈ lw_all := lw_in (lw_s4 (List.mem_of_getElem? (i := 213) (by decide +kernel))) (by decide +kernel)
theorem kw_1003 : (Jvm.Cond.code ({ cls := "java/lang/AbstractStringBuilder", name := "charAt", desc := "(I)C" } : Jvm.MethodName) prog_15_method_14_code (5 : Nat) (Option.some Jvm.ClassFile.FieldType.char)) ∈ lw_all := lw_in (lw_s4 (List.mem_of_getElem? (i := 214) (by decide +kernel))) (by decide +kernel)
theorem kw_1004 : (Jvm.Cond.methodLink "java/lang/AbstractStringBuilder" (138 : Nat) ({ cls := "java/lang/Math", name := "min", desc := "(II)I" } : Jvm.MethodName)) ∈ lw_all := lw_in (lw_s4 (List.mem_of_getElem? (i := 215) (by decide +kernel))) (by decide +kernel)
theorem kw_1005 : (Jvm.Cond.methodLink "java/lang/AbstractStringBuilder" (144 : Nat) ({ cls := "java/lang/String", name := "checkIndex", desc := "(II)V" } : Jvm.MethodName)) ∈ lw_all := lw_in (lw_s4 (List.mem_of_getElem? (i := 216) (by decide +kernel))) (by decide +kernel)
theorem kw_1006 : (Jvm.Cond.methodLink "java/lang/AbstractStringBuilder" (148 : Nat) ({ cls := "java/lang/StringUTF16", name := "getChar", desc := "([BI)C" } : Jvm.MethodName)) ∈ lw_all := lw_in (lw_s4 (List.mem_of_getElem? (i := 217) (by decide +kernel))) (by decide +kernel)
theorem kw_1007 : (Jvm.Cond.static ({ cls := "java/lang/StringUTF16", name := "getChar", desc := "([BI)C" } : Jvm.MethodName)) ∈ lw_all := lw_in (lw_s4 (List.mem_of_getElem? (i := 218) (by decide +kernel))) (by decide +kernel)
theorem kw_1008 : (Jvm.Cond.code ({ cls := "java/lang/StringUTF16", name := "getChar", desc := "([BI)C" } : Jvm.MethodName) prog_26_method_5_code (2 : Nat) (Option.some Jvm.ClassFile.FieldType.char)) ∈ lw_all := lw_in (lw_s4 (List.mem_of_getElem? (i := 219) (by decide +kernel))) (by decide +kernel)
theorem kw_1009 : (Jvm.Cond.methodLink "FareLimitsLaw" (128 : Nat) ({ cls := "FareLimits", name := "replay", desc := "(I)I" } : Jvm.MethodName)) ∈ lw_all := lw_in (lw_s4 (List.mem_of_getElem? (i := 220) (by decide +kernel))) (by decide +kernel)
theorem kw_1010 : (Jvm.Cond.instanceMethod ({ cls := "FareLimits", name := "replay", desc := "(I)I" } : Jvm.MethodName)) ∈ lw_all := lw_in (lw_s4 (List.mem_of_getElem? (i := 221) (by decide +kernel))) (by decide +kernel)
theorem kw_1011 : (Jvm.Cond.selects "FareLimits" ({ cls := "FareLimits", name := "replay", desc := "(I)I" } : Jvm.MethodName) ({ cls := "FareLimits", name := "replay", desc := "(I)I" } : Jvm.MethodName)) ∈ lw_all := lw_in (lw_s4 (List.mem_of_getElem? (i := 222) (by decide +kernel))) (by decide +kernel)
theorem kw_1012 : (Jvm.Cond.code ({ cls := "FareLimits", name := "replay", desc := "(I)I" } : Jvm.MethodName) prog_1_method_34_code (2 : Nat) (Option.some Jvm.ClassFile.FieldType.int)) ∈ lw_all := lw_in (lw_s4 (List.mem_of_getElem? (i := 223) (by decide +kernel))) (by decide +kernel)
theorem kw_1013 : (Jvm.Cond.methodLink "FareLimits" (293 : Nat) ({ cls := "FareLimits", name := "answerRequests", desc := "(II)I" } : Jvm.MethodName)) ∈ lw_all := lw_in (lw_s4 (List.mem_of_getElem? (i := 224) (by decide +kernel))) (by decide +kernel)
theorem kw_1015 : (Jvm.Cond.instanceMethod ({ cls := "FareLimits", name := "answerRequests", desc := "(II)I" } : Jvm.MethodName)) ∈ lw_all := lw_in (lw_s4 (List.mem_of_getElem? (i := 226) (by decide +kernel))) (by decide +kernel)
theorem kw_1016 : (Jvm.Cond.code ({ cls := "FareLimits", name := "answerRequests", desc := "(II)I" } : Jvm.MethodName) prog_1_method_36_code (5 : Nat) (Option.some Jvm.ClassFile.FieldType.int)) ∈ lw_all := lw_in (lw_s4 (List.mem_of_getElem? (i := 227) (by decide +kernel))) (by decide +kernel)
theorem kw_1017 : (Jvm.Cond.methodLink "FareLimits" (296 : Nat) ({ cls := "FareLimits$Tape", name := "faultAsRequests", desc := "(I)I" } : Jvm.MethodName)) ∈ lw_all := lw_in (lw_s4 (List.mem_of_getElem? (i := 228) (by decide +kernel))) (by decide +kernel)
theorem kw_1018 : (Jvm.Cond.instanceMethod ({ cls := "FareLimits$Tape", name := "faultAsRequests", desc := "(I)I" } : Jvm.MethodName)) ∈ lw_all := lw_in (lw_s4 (List.mem_of_getElem? (i := 229) (by decide +kernel))) (by decide +kernel)
theorem kw_1019 : (Jvm.Cond.selects "FareLimits$Tape" ({ cls := "FareLimits$Tape", name := "faultAsRequests", desc := "(I)I" } : Jvm.MethodName) ({ cls := "FareLimits$Tape", name := "faultAsRequests", desc := "(I)I" } : Jvm.MethodName)) ∈ lw_all := lw_in (lw_s4 (List.mem_of_getElem? (i := 230) (by decide +kernel))) (by decide +kernel)
theorem kw_1020 : (Jvm.Cond.code ({ cls := "FareLimits$Tape", name := "faultAsRequests", desc := "(I)I" } : Jvm.MethodName) prog_9_method_6_code (4 : Nat) (Option.some Jvm.ClassFile.FieldType.int)) ∈ lw_all := lw_in (lw_s4 (List.mem_of_getElem? (i := 231) (by decide +kernel))) (by decide +kernel)
theorem kw_1021 : (Jvm.Cond.methodLink "FareLimits$Tape" (29 : Nat) ({ cls := "FareLimits$Tape", name := "fareAsked", desc := "(I)I" } : Jvm.MethodName)) ∈ lw_all := lw_in (lw_s4 (List.mem_of_getElem? (i := 232) (by decide +kernel))) (by decide +kernel)
theorem kw_1022 : (Jvm.Cond.instanceMethod ({ cls := "FareLimits$Tape", name := "fareAsked", desc := "(I)I" } : Jvm.MethodName)) ∈ lw_all := lw_in (lw_s4 (List.mem_of_getElem? (i := 233) (by decide +kernel))) (by decide +kernel)
theorem kw_1023 : (Jvm.Cond.selects "FareLimits$Tape" ({ cls := "FareLimits$Tape", name := "fareAsked", desc := "(I)I" } : Jvm.MethodName) ({ cls := "FareLimits$Tape", name := "fareAsked", desc := "(I)I" } : Jvm.MethodName)) ∈ lw_all := lw_in (lw_s4 (List.mem_of_getElem? (i := 234) (by decide +kernel))) (by decide +kernel)
theorem kw_1024 : (Jvm.Cond.code ({ cls := "FareLimits$Tape", name := "fareAsked", desc := "(I)I" } : Jvm.MethodName) prog_9_method_5_code (2 : Nat) (Option.some Jvm.ClassFile.FieldType.int)) ∈ lw_all := lw_in (lw_s4 (List.mem_of_getElem? (i := 235) (by decide +kernel))) (by decide +kernel)
theorem kt_1025 : (Jvm.Cond.methodLinkNest "FareLimits$Tape" (32 : Nat) ({ cls := "FareLimits", name := "within", desc := "(II)Z" } : Jvm.MethodName) "FareLimits") ∈ lw_tbl := lw_s4 (List.mem_of_getElem? (i := 236) (by decide +kernel))
theorem kw_1026 : (Jvm.Cond.methodLink "FareLimits" (299 : Nat) ({ cls := "FareLimits$Day", name := "begin", desc := "()V" } : Jvm.MethodName)) ∈ lw_all := lw_in (lw_s4 (List.mem_of_getElem? (i := 237) (by decide +kernel))) (by decide +kernel)
theorem kw_1027 : (Jvm.Cond.instanceMethod ({ cls := "FareLimits$Day", name := "begin", desc := "()V" } : Jvm.MethodName)) ∈ lw_all := lw_in (lw_s4 (List.mem_of_getElem? (i := 238) (by decide +kernel))) (by decide +kernel)
theorem kw_1028 : (Jvm.Cond.selects "FareLimits$Day" ({ cls := "FareLimits$Day", name := "begin", desc := "()V" } : Jvm.MethodName) ({ cls := "FareLimits$Day", name := "begin", desc := "()V" } : Jvm.MethodName)) ∈ lw_all := lw_in (lw_s4 (List.mem_of_getElem? (i := 239) (by decide +kernel))) (by decide +kernel)
theorem kw_1029 : (Jvm.Cond.code ({ cls := "FareLimits$Day", name := "begin", desc := "()V" } : Jvm.MethodName) prog_3_method_2_code (1 : Nat) (Option.none : Option Jvm.ClassFile.FieldType)) ∈ lw_all := lw_in (lw_s5 (List.mem_of_getElem? (i := 0) (by decide +kernel))) (by decide +kernel)
theorem kw_1030 : (Jvm.Cond.methodLink "FareLimits" (301 : Nat) ({ cls := "FareLimits$Tape", name := "fareAsked", desc := "(I)I" } : Jvm.MethodName)) ∈ lw_all := lw_in (lw_s5 (List.mem_of_getElem? (i := 1) (by decide +kernel))) (by decide +kernel)
theorem kw_1031 : (Jvm.Cond.methodLink "FareLimits" (304 : Nat) ({ cls := "FareLimits$Day", name := "ask", desc := "(IIII)V" } : Jvm.MethodName)) ∈ lw_all := lw_in (lw_s5 (List.mem_of_getElem? (i := 2) (by decide +kernel))) (by decide +kernel)
theorem kw_1032 : (Jvm.Cond.instanceMethod ({ cls := "FareLimits$Day", name := "ask", desc := "(IIII)V" } : Jvm.MethodName)) ∈ lw_all := lw_in (lw_s5 (List.mem_of_getElem? (i := 3) (by decide +kernel))) (by decide +kernel)
theorem kw_1033 : (Jvm.Cond.selects "FareLimits$Day" ({ cls := "FareLimits$Day", name := "ask", desc := "(IIII)V" } : Jvm.MethodName) ({ cls := "FareLimits$Day", name := "ask", desc := "(IIII)V" } : Jvm.MethodName)) ∈ lw_all := lw_in (lw_s5 (List.mem_of_getElem? (i := 4) (by decide +kernel))) (by decide +kernel)
theorem kw_1034 : (Jvm.Cond.code ({ cls := "FareLimits$Day", name := "ask", desc := "(IIII)V" } : Jvm.MethodName) prog_3_method_3_code (6 : Nat) (Option.none : Option Jvm.ClassFile.FieldType)) ∈ lw_all := lw_in (lw_s5 (List.mem_of_getElem? (i := 5) (by decide +kernel))) (by decide +kernel)
theorem kw_1035 : (Jvm.Cond.methodLink "FareLimits$Day" (47 : Nat) ({ cls := "FareLimits$Plan", name := "hasFare", desc := "(I)Z" } : Jvm.MethodName)) ∈ lw_all := lw_in (lw_s5 (List.mem_of_getElem? (i := 6) (by decide +kernel))) (by decide +kernel)
theorem kw_1036 : (Jvm.Cond.methodLink "FareLimits$Day" (60 : Nat) ({ cls := "FareLimits$Day", name := "handGives", desc := "(I)Z" } : Jvm.MethodName)) ∈ lw_all := lw_in (lw_s5 (List.mem_of_getElem? (i := 7) (by decide +kernel))) (by decide +kernel)
theorem kw_1038 : (Jvm.Cond.instanceMethod ({ cls := "FareLimits$Day", name := "handGives", desc := "(I)Z" } : Jvm.MethodName)) ∈ lw_all := lw_in (lw_s5 (List.mem_of_getElem? (i := 9) (by decide +kernel))) (by decide +kernel)
theorem kw_1039 : (Jvm.Cond.code ({ cls := "FareLimits$Day", name := "handGives", desc := "(I)Z" } : Jvm.MethodName) prog_3_method_4_code (4 : Nat) (Option.some Jvm.ClassFile.FieldType.boolean)) ∈ lw_all := lw_in (lw_s5 (List.mem_of_getElem? (i := 10) (by decide +kernel))) (by decide +kernel)
theorem kw_1040 : (Jvm.Cond.methodLink "FareLimits$Day" (63 : Nat) ({ cls := "FareLimits$Worths", name := "takes", desc := "(III)Z" } : Jvm.MethodName)) ∈ lw_all := lw_in (lw_s5 (List.mem_of_getElem? (i := 11) (by decide +kernel))) (by decide +kernel)
theorem kw_1041 : (Jvm.Cond.methodLink "FareLimits" (318 : Nat) ({ cls := "FareLimits$Day", name := "pricesBehind", desc := "()I" } : Jvm.MethodName)) ∈ lw_all := lw_in (lw_s5 (List.mem_of_getElem? (i := 12) (by decide +kernel))) (by decide +kernel)
theorem kw_1042 : (Jvm.Cond.instanceMethod ({ cls := "FareLimits$Day", name := "pricesBehind", desc := "()I" } : Jvm.MethodName)) ∈ lw_all := lw_in (lw_s5 (List.mem_of_getElem? (i := 13) (by decide +kernel))) (by decide +kernel)
theorem kw_1043 : (Jvm.Cond.selects "FareLimits$Day" ({ cls := "FareLimits$Day", name := "pricesBehind", desc := "()I" } : Jvm.MethodName) ({ cls := "FareLimits$Day", name := "pricesBehind", desc := "()I" } : Jvm.MethodName)) ∈ lw_all := lw_in (lw_s5 (List.mem_of_getElem? (i := 14) (by decide +kernel))) (by decide +kernel)
theorem kw_1044 : (Jvm.Cond.code ({ cls := "FareLimits$Day", name := "pricesBehind", desc := "()I" } : Jvm.MethodName) prog_3_method_7_code (6 : Nat) (Option.some Jvm.ClassFile.FieldType.int)) ∈ lw_all := lw_in (lw_s5 (List.mem_of_getElem? (i := 15) (by decide +kernel))) (by decide +kernel)
theorem kw_1045 : (Jvm.Cond.methodLink "FareLimitsLaw" (156 : Nat) ({ cls := "FareLimits", name := "byHand", desc := "(I)I" } : Jvm.MethodName)) ∈ lw_all := lw_in (lw_s5 (List.mem_of_getElem? (i := 16) (by decide +kernel))) (by decide +kernel)
theorem kw_1046 : (Jvm.Cond.instanceMethod ({ cls := "FareLimits", name := "byHand", desc := "(I)I" } : Jvm.MethodName)) ∈ lw_all := lw_in (lw_s5 (List.mem_of_getElem? (i := 17) (by decide +kernel))) (by decide +kernel)
theorem kw_1047 : (Jvm.Cond.selects "FareLimits" ({ cls := "FareLimits", name := "byHand", desc := "(I)I" } : Jvm.MethodName) ({ cls := "FareLimits", name := "byHand", desc := "(I)I" } : Jvm.MethodName)) ∈ lw_all := lw_in (lw_s5 (List.mem_of_getElem? (i := 18) (by decide +kernel))) (by decide +kernel)
theorem kw_1048 : (Jvm.Cond.code ({ cls := "FareLimits", name := "byHand", desc := "(I)I" } : Jvm.MethodName) prog_1_method_35_code (2 : Nat) (Option.some Jvm.ClassFile.FieldType.int)) ∈ lw_all := lw_in (lw_s5 (List.mem_of_getElem? (i := 19) (by decide +kernel))) (by decide +kernel)
theorem kw_1049 : (Jvm.Cond.methodLink "FareLimitsLaw" (160 : Nat) ({ cls := "FareLimits", name := "drawn", desc := "(IIII)I" } : Jvm.MethodName)) ∈ lw_all := lw_in (lw_s5 (List.mem_of_getElem? (i := 20) (by decide +kernel))) (by decide +kernel)
theorem kw_1050 : (Jvm.Cond.instanceMethod ({ cls := "FareLimits", name := "drawn", desc := "(IIII)I" } : Jvm.MethodName)) ∈ lw_all := lw_in (lw_s5 (List.mem_of_getElem? (i := 21) (by decide +kernel))) (by decide +kernel)
theorem kw_1051 : (Jvm.Cond.selects "FareLimits" ({ cls := "FareLimits", name := "drawn", desc := "(IIII)I" } : Jvm.MethodName) ({ cls := "FareLimits", name := "drawn", desc := "(IIII)I" } : Jvm.MethodName)) ∈ lw_all := lw_in (lw_s5 (List.mem_of_getElem? (i := 22) (by decide +kernel))) (by decide +kernel)
theorem kw_1052 : (Jvm.Cond.code ({ cls := "FareLimits", name := "drawn", desc := "(IIII)I" } : Jvm.MethodName) prog_1_method_37_code (10 : Nat) (Option.some Jvm.ClassFile.FieldType.int)) ∈ lw_all := lw_in (lw_s5 (List.mem_of_getElem? (i := 23) (by decide +kernel))) (by decide +kernel)
theorem kw_1053 : (Jvm.Cond.methodLink "FareLimits" (321 : Nat) ({ cls := "FareLimits$Day", name := "draw", desc := "(II)V" } : Jvm.MethodName)) ∈ lw_all := lw_in (lw_s5 (List.mem_of_getElem? (i := 24) (by decide +kernel))) (by decide +kernel)
theorem kw_1054 : (Jvm.Cond.instanceMethod ({ cls := "FareLimits$Day", name := "draw", desc := "(II)V" } : Jvm.MethodName)) ∈ lw_all := lw_in (lw_s5 (List.mem_of_getElem? (i := 25) (by decide +kernel))) (by decide +kernel)
theorem kw_1055 : (Jvm.Cond.selects "FareLimits$Day" ({ cls := "FareLimits$Day", name := "draw", desc := "(II)V" } : Jvm.MethodName) ({ cls := "FareLimits$Day", name := "draw", desc := "(II)V" } : Jvm.MethodName)) ∈ lw_all := lw_in (lw_s5 (List.mem_of_getElem? (i := 26) (by decide +kernel))) (by decide +kernel)
theorem kw_1056 : (Jvm.Cond.code ({ cls := "FareLimits$Day", name := "draw", desc := "(II)V" } : Jvm.MethodName) prog_3_method_5_code (4 : Nat) (Option.none : Option Jvm.ClassFile.FieldType)) ∈ lw_all := lw_in (lw_s5 (List.mem_of_getElem? (i := 27) (by decide +kernel))) (by decide +kernel)
theorem kw_1057 : (Jvm.Cond.methodLink "FareLimits$Day" (72 : Nat) ({ cls := "FareLimits$Day", name := "begin", desc := "()V" } : Jvm.MethodName)) ∈ lw_all := lw_in (lw_s5 (List.mem_of_getElem? (i := 28) (by decide +kernel))) (by decide +kernel)
theorem kw_1058 : (Jvm.Cond.constant "FareLimits$Day" (78 : Nat) (1103515245 : Int32)) ∈ lw_all := lw_in (lw_s5 (List.mem_of_getElem? (i := 29) (by decide +kernel))) (by decide +kernel)
theorem kt_1059 : (Jvm.Cond.methodLinkNest "FareLimits$Day" (79 : Nat) ({ cls := "FareLimits", name := "phaseOf", desc := "(I)I" } : Jvm.MethodName) "FareLimits") ∈ lw_tbl := lw_s5 (List.mem_of_getElem? (i := 30) (by decide +kernel))
theorem kw_1060 : (Jvm.Cond.methodLink "FareLimits$Day" (83 : Nat) ({ cls := "FareLimits$Day", name := "fareDrawn", desc := "(II)I" } : Jvm.MethodName)) ∈ lw_all := lw_in (lw_s5 (List.mem_of_getElem? (i := 31) (by decide +kernel))) (by decide +kernel)
theorem kw_1062 : (Jvm.Cond.instanceMethod ({ cls := "FareLimits$Day", name := "fareDrawn", desc := "(II)I" } : Jvm.MethodName)) ∈ lw_all := lw_in (lw_s5 (List.mem_of_getElem? (i := 33) (by decide +kernel))) (by decide +kernel)
theorem kw_1063 : (Jvm.Cond.code ({ cls := "FareLimits$Day", name := "fareDrawn", desc := "(II)I" } : Jvm.MethodName) prog_3_method_6_code (5 : Nat) (Option.some Jvm.ClassFile.FieldType.int)) ∈ lw_all := lw_in (lw_s5 (List.mem_of_getElem? (i := 34) (by decide +kernel))) (by decide +kernel)
theorem kw_1064 : (Jvm.Cond.methodLink "FareLimits$Day" (87 : Nat) ({ cls := "FareLimits$Day", name := "ask", desc := "(IIII)V" } : Jvm.MethodName)) ∈ lw_all := lw_in (lw_s5 (List.mem_of_getElem? (i := 35) (by decide +kernel))) (by decide +kernel)
theorem kw_1065 : (Jvm.Cond.methodLink "FareLimitsLaw" (165 : Nat) ({ cls := "FareLimits", name := "seed", desc := "(I)I" } : Jvm.MethodName)) ∈ lw_all := lw_in (lw_s5 (List.mem_of_getElem? (i := 36) (by decide +kernel))) (by decide +kernel)
theorem kw_1066 : (Jvm.Cond.instanceMethod ({ cls := "FareLimits", name := "seed", desc := "(I)I" } : Jvm.MethodName)) ∈ lw_all := lw_in (lw_s5 (List.mem_of_getElem? (i := 37) (by decide +kernel))) (by decide +kernel)
theorem kw_1067 : (Jvm.Cond.selects "FareLimits" ({ cls := "FareLimits", name := "seed", desc := "(I)I" } : Jvm.MethodName) ({ cls := "FareLimits", name := "seed", desc := "(I)I" } : Jvm.MethodName)) ∈ lw_all := lw_in (lw_s5 (List.mem_of_getElem? (i := 38) (by decide +kernel))) (by decide +kernel)
theorem kw_1068 : (Jvm.Cond.code ({ cls := "FareLimits", name := "seed", desc := "(I)I" } : Jvm.MethodName) prog_1_method_38_code (3 : Nat) (Option.some Jvm.ClassFile.FieldType.int)) ∈ lw_all := lw_in (lw_s5 (List.mem_of_getElem? (i := 39) (by decide +kernel))) (by decide +kernel)
theorem kw_1069 : (Jvm.Cond.methodLink "FareLimitsLaw" (169 : Nat) ({ cls := "FareLimits", name := "tray", desc := "(III)I" } : Jvm.MethodName)) ∈ lw_all := lw_in (lw_s5 (List.mem_of_getElem? (i := 40) (by decide +kernel))) (by decide +kernel)
theorem kw_1070 : (Jvm.Cond.instanceMethod ({ cls := "FareLimits", name := "tray", desc := "(III)I" } : Jvm.MethodName)) ∈ lw_all := lw_in (lw_s5 (List.mem_of_getElem? (i := 41) (by decide +kernel))) (by decide +kernel)
theorem kw_1071 : (Jvm.Cond.selects "FareLimits" ({ cls := "FareLimits", name := "tray", desc := "(III)I" } : Jvm.MethodName) ({ cls := "FareLimits", name := "tray", desc := "(III)I" } : Jvm.MethodName)) ∈ lw_all := lw_in (lw_s5 (List.mem_of_getElem? (i := 42) (by decide +kernel))) (by decide +kernel)
theorem kw_1072 : (Jvm.Cond.code ({ cls := "FareLimits", name := "tray", desc := "(III)I" } : Jvm.MethodName) prog_1_method_39_code (4 : Nat) (Option.some Jvm.ClassFile.FieldType.int)) ∈ lw_all := lw_in (lw_s5 (List.mem_of_getElem? (i := 43) (by decide +kernel))) (by decide +kernel)
theorem kw_1073 : (Jvm.Cond.methodLink "FareLimits" (331 : Nat) ({ cls := "FareLimits$Tray", name := "begin", desc := "(LFareLimits$Kind;I)V" } : Jvm.MethodName)) ∈ lw_all := lw_in (lw_s5 (List.mem_of_getElem? (i := 44) (by decide +kernel))) (by decide +kernel)
theorem kw_1074 : (Jvm.Cond.instanceMethod ({ cls := "FareLimits$Tray", name := "begin", desc := "(LFareLimits$Kind;I)V" } : Jvm.MethodName)) ∈ lw_all := lw_in (lw_s5 (List.mem_of_getElem? (i := 45) (by decide +kernel))) (by decide +kernel)
theorem kw_1075 : (Jvm.Cond.selects "FareLimits$Tray" ({ cls := "FareLimits$Tray", name := "begin", desc := "(LFareLimits$Kind;I)V" } : Jvm.MethodName) ({ cls := "FareLimits$Tray", name := "begin", desc := "(LFareLimits$Kind;I)V" } : Jvm.MethodName)) ∈ lw_all := lw_in (lw_s5 (List.mem_of_getElem? (i := 46) (by decide +kernel))) (by decide +kernel)
theorem kw_1076 : (Jvm.Cond.code ({ cls := "FareLimits$Tray", name := "begin", desc := "(LFareLimits$Kind;I)V" } : Jvm.MethodName) prog_10_method_2_code (3 : Nat) (Option.none : Option Jvm.ClassFile.FieldType)) ∈ lw_all := lw_in (lw_s5 (List.mem_of_getElem? (i := 47) (by decide +kernel))) (by decide +kernel)
theorem kw_1077 : (Jvm.Cond.methodLink "FareLimits$Tray" (28 : Nat) ({ cls := "java/util/Arrays", name := "fill", desc := "([II)V" } : Jvm.MethodName)) ∈ lw_all := lw_in (lw_s5 (List.mem_of_getElem? (i := 48) (by decide +kernel))) (by decide +kernel)
theorem kw_1078 : (Jvm.Cond.methodLink "FareLimitsLaw" (173 : Nat) ({ cls := "FareLimits", name := "lays", desc := "(III)I" } : Jvm.MethodName)) ∈ lw_all := lw_in (lw_s5 (List.mem_of_getElem? (i := 49) (by decide +kernel))) (by decide +kernel)
theorem kw_1079 : (Jvm.Cond.instanceMethod ({ cls := "FareLimits", name := "lays", desc := "(III)I" } : Jvm.MethodName)) ∈ lw_all := lw_in (lw_s5 (List.mem_of_getElem? (i := 50) (by decide +kernel))) (by decide +kernel)
theorem kw_1080 : (Jvm.Cond.selects "FareLimits" ({ cls := "FareLimits", name := "lays", desc := "(III)I" } : Jvm.MethodName) ({ cls := "FareLimits", name := "lays", desc := "(III)I" } : Jvm.MethodName)) ∈ lw_all := lw_in (lw_s5 (List.mem_of_getElem? (i := 51) (by decide +kernel))) (by decide +kernel)
theorem kw_1081 : (Jvm.Cond.code ({ cls := "FareLimits", name := "lays", desc := "(III)I" } : Jvm.MethodName) prog_1_method_40_code (5 : Nat) (Option.some Jvm.ClassFile.FieldType.int)) ∈ lw_all := lw_in (lw_s5 (List.mem_of_getElem? (i := 52) (by decide +kernel))) (by decide +kernel)
theorem kw_1082 : (Jvm.Cond.methodLink "FareLimits" (334 : Nat) ({ cls := "FareLimits$Kind", name := "isOf", desc := "(LFareLimits$Kind;)Z" } : Jvm.MethodName)) ∈ lw_all := lw_in (lw_s5 (List.mem_of_getElem? (i := 53) (by decide +kernel))) (by decide +kernel)
theorem kw_1083 : (Jvm.Cond.instanceMethod ({ cls := "FareLimits$Kind", name := "isOf", desc := "(LFareLimits$Kind;)Z" } : Jvm.MethodName)) ∈ lw_all := lw_in (lw_s5 (List.mem_of_getElem? (i := 54) (by decide +kernel))) (by decide +kernel)
theorem kw_1084 : (Jvm.Cond.selects "FareLimits$Kind" ({ cls := "FareLimits$Kind", name := "isOf", desc := "(LFareLimits$Kind;)Z" } : Jvm.MethodName) ({ cls := "FareLimits$Kind", name := "isOf", desc := "(LFareLimits$Kind;)Z" } : Jvm.MethodName)) ∈ lw_all := lw_in (lw_s5 (List.mem_of_getElem? (i := 55) (by decide +kernel))) (by decide +kernel)
theorem kw_1085 : (Jvm.Cond.code ({ cls := "FareLimits$Kind", name := "isOf", desc := "(LFareLimits$Kind;)Z" } : Jvm.MethodName) prog_5_method_4_code (4 : Nat) (Option.some Jvm.ClassFile.FieldType.boolean)) ∈ lw_all := lw_in (lw_s5 (List.mem_of_getElem? (i := 56) (by decide +kernel))) (by decide +kernel)
theorem kt_1086 : (Jvm.Cond.fieldLinkNest "FareLimits$Kind" (47 : Nat) "FareLimits" "KINDS" "[LFareLimits$Kind;" "FareLimits") ∈ lw_tbl := lw_s5 (List.mem_of_getElem? (i := 57) (by decide +kernel))
theorem kw_1087 : (Jvm.Cond.methodLink "FareLimitsLaw" (177 : Nat) ({ cls := "FareLimits", name := "laid", desc := "(II)I" } : Jvm.MethodName)) ∈ lw_all := lw_in (lw_s5 (List.mem_of_getElem? (i := 58) (by decide +kernel))) (by decide +kernel)
theorem kw_1088 : (Jvm.Cond.instanceMethod ({ cls := "FareLimits", name := "laid", desc := "(II)I" } : Jvm.MethodName)) ∈ lw_all := lw_in (lw_s5 (List.mem_of_getElem? (i := 59) (by decide +kernel))) (by decide +kernel)
theorem kw_1089 : (Jvm.Cond.selects "FareLimits" ({ cls := "FareLimits", name := "laid", desc := "(II)I" } : Jvm.MethodName) ({ cls := "FareLimits", name := "laid", desc := "(II)I" } : Jvm.MethodName)) ∈ lw_all := lw_in (lw_s5 (List.mem_of_getElem? (i := 60) (by decide +kernel))) (by decide +kernel)
theorem kw_1090 : (Jvm.Cond.code ({ cls := "FareLimits", name := "laid", desc := "(II)I" } : Jvm.MethodName) prog_1_method_41_code (4 : Nat) (Option.some Jvm.ClassFile.FieldType.int)) ∈ lw_all := lw_in (lw_s5 (List.mem_of_getElem? (i := 61) (by decide +kernel))) (by decide +kernel)
theorem kw_1091 : (Jvm.Cond.methodLink "FareLimitsLaw" (181 : Nat) ({ cls := "FareLimits", name := "like", desc := "(II)I" } : Jvm.MethodName)) ∈ lw_all := lw_in (lw_s5 (List.mem_of_getElem? (i := 62) (by decide +kernel))) (by decide +kernel)
theorem kw_1092 : (Jvm.Cond.instanceMethod ({ cls := "FareLimits", name := "like", desc := "(II)I" } : Jvm.MethodName)) ∈ lw_all := lw_in (lw_s5 (List.mem_of_getElem? (i := 63) (by decide +kernel))) (by decide +kernel)
theorem kw_1093 : (Jvm.Cond.selects "FareLimits" ({ cls := "FareLimits", name := "like", desc := "(II)I" } : Jvm.MethodName) ({ cls := "FareLimits", name := "like", desc := "(II)I" } : Jvm.MethodName)) ∈ lw_all := lw_in (lw_s5 (List.mem_of_getElem? (i := 64) (by decide +kernel))) (by decide +kernel)
theorem kw_1094 : (Jvm.Cond.code ({ cls := "FareLimits", name := "like", desc := "(II)I" } : Jvm.MethodName) prog_1_method_42_code (3 : Nat) (Option.some Jvm.ClassFile.FieldType.int)) ∈ lw_all := lw_in (lw_s5 (List.mem_of_getElem? (i := 65) (by decide +kernel))) (by decide +kernel)
theorem kw_1095 : (Jvm.Cond.methodLink "FareLimits" (340 : Nat) ({ cls := "FareLimits$Tray", name := "become", desc := "(LFareLimits$Tray;)V" } : Jvm.MethodName)) ∈ lw_all := lw_in (lw_s5 (List.mem_of_getElem? (i := 66) (by decide +kernel))) (by decide +kernel)
theorem kw_1096 : (Jvm.Cond.instanceMethod ({ cls := "FareLimits$Tray", name := "become", desc := "(LFareLimits$Tray;)V" } : Jvm.MethodName)) ∈ lw_all := lw_in (lw_s5 (List.mem_of_getElem? (i := 67) (by decide +kernel))) (by decide +kernel)
theorem kw_1097 : (Jvm.Cond.selects "FareLimits$Tray" ({ cls := "FareLimits$Tray", name := "become", desc := "(LFareLimits$Tray;)V" } : Jvm.MethodName) ({ cls := "FareLimits$Tray", name := "become", desc := "(LFareLimits$Tray;)V" } : Jvm.MethodName)) ∈ lw_all := lw_in (lw_s5 (List.mem_of_getElem? (i := 68) (by decide +kernel))) (by decide +kernel)
theorem kw_1098 : (Jvm.Cond.code ({ cls := "FareLimits$Tray", name := "become", desc := "(LFareLimits$Tray;)V" } : Jvm.MethodName) prog_10_method_3_code (2 : Nat) (Option.none : Option Jvm.ClassFile.FieldType)) ∈ lw_all := lw_in (lw_s5 (List.mem_of_getElem? (i := 69) (by decide +kernel))) (by decide +kernel)
theorem kw_1099 : (Jvm.Cond.methodLink "FareLimits$Tray" (34 : Nat) ({ cls := "java/lang/System", name := "arraycopy", desc := "(Ljava/lang/Object;ILjava/lang/Object;II)V" } : Jvm.MethodName)) ∈ lw_all := lw_in (lw_s5 (List.mem_of_getElem? (i := 70) (by decide +kernel))) (by decide +kernel)
theorem kw_1100 : (Jvm.Cond.methodLink "FareLimitsLaw" (185 : Nat) ({ cls := "FareLimits", name := "list", desc := "(II)I" } : Jvm.MethodName)) ∈ lw_all := lw_in (lw_s5 (List.mem_of_getElem? (i := 71) (by decide +kernel))) (by decide +kernel)
theorem kw_1101 : (Jvm.Cond.instanceMethod ({ cls := "FareLimits", name := "list", desc := "(II)I" } : Jvm.MethodName)) ∈ lw_all := lw_in (lw_s5 (List.mem_of_getElem? (i := 72) (by decide +kernel))) (by decide +kernel)
theorem kw_1102 : (Jvm.Cond.selects "FareLimits" ({ cls := "FareLimits", name := "list", desc := "(II)I" } : Jvm.MethodName) ({ cls := "FareLimits", name := "list", desc := "(II)I" } : Jvm.MethodName)) ∈ lw_all := lw_in (lw_s5 (List.mem_of_getElem? (i := 73) (by decide +kernel))) (by decide +kernel)
theorem kw_1103 : (Jvm.Cond.code ({ cls := "FareLimits", name := "list", desc := "(II)I" } : Jvm.MethodName) prog_1_method_43_code (3 : Nat) (Option.some Jvm.ClassFile.FieldType.int)) ∈ lw_all := lw_in (lw_s5 (List.mem_of_getElem? (i := 74) (by decide +kernel))) (by decide +kernel)
theorem kw_1104 : (Jvm.Cond.methodLink "FareLimits" (344 : Nat) ({ cls := "java/util/Arrays", name := "fill", desc := "([JJ)V" } : Jvm.MethodName)) ∈ lw_all := lw_in (lw_s5 (List.mem_of_getElem? (i := 75) (by decide +kernel))) (by decide +kernel)
theorem kw_1105 : (Jvm.Cond.methodLink "FareLimitsLaw" (191 : Nat) ({ cls := "FareLimits", name := "set", desc := "(IIJ)I" } : Jvm.MethodName)) ∈ lw_all := lw_in (lw_s5 (List.mem_of_getElem? (i := 76) (by decide +kernel))) (by decide +kernel)
theorem kw_1106 : (Jvm.Cond.instanceMethod ({ cls := "FareLimits", name := "set", desc := "(IIJ)I" } : Jvm.MethodName)) ∈ lw_all := lw_in (lw_s5 (List.mem_of_getElem? (i := 77) (by decide +kernel))) (by decide +kernel)
theorem kw_1107 : (Jvm.Cond.selects "FareLimits" ({ cls := "FareLimits", name := "set", desc := "(IIJ)I" } : Jvm.MethodName) ({ cls := "FareLimits", name := "set", desc := "(IIJ)I" } : Jvm.MethodName)) ∈ lw_all := lw_in (lw_s5 (List.mem_of_getElem? (i := 78) (by decide +kernel))) (by decide +kernel)
theorem kw_1108 : (Jvm.Cond.code ({ cls := "FareLimits", name := "set", desc := "(IIJ)I" } : Jvm.MethodName) prog_1_method_44_code (5 : Nat) (Option.some Jvm.ClassFile.FieldType.int)) ∈ lw_all := lw_in (lw_s5 (List.mem_of_getElem? (i := 79) (by decide +kernel))) (by decide +kernel)
theorem kw_1109 : (Jvm.Cond.methodLink "FareLimitsLaw" (196 : Nat) ({ cls := "FareLimits", name := "get", desc := "(II)J" } : Jvm.MethodName)) ∈ lw_all := lw_in (lw_s5 (List.mem_of_getElem? (i := 80) (by decide +kernel))) (by decide +kernel)
theorem kw_1110 : (Jvm.Cond.instanceMethod ({ cls := "FareLimits", name := "get", desc := "(II)J" } : Jvm.MethodName)) ∈ lw_all := lw_in (lw_s5 (List.mem_of_getElem? (i := 81) (by decide +kernel))) (by decide +kernel)
theorem kw_1111 : (Jvm.Cond.selects "FareLimits" ({ cls := "FareLimits", name := "get", desc := "(II)J" } : Jvm.MethodName) ({ cls := "FareLimits", name := "get", desc := "(II)J" } : Jvm.MethodName)) ∈ lw_all := lw_in (lw_s5 (List.mem_of_getElem? (i := 82) (by decide +kernel))) (by decide +kernel)
theorem kw_1112 : (Jvm.Cond.code ({ cls := "FareLimits", name := "get", desc := "(II)J" } : Jvm.MethodName) prog_1_method_45_code (3 : Nat) (Option.some Jvm.ClassFile.FieldType.long)) ∈ lw_all := lw_in (lw_s5 (List.mem_of_getElem? (i := 83) (by decide +kernel))) (by decide +kernel)
theorem kw_1113 : (Jvm.Cond.methodLink "FareLimitsLaw" (200 : Nat) ({ cls := "FareLimits", name := "judge", desc := "(III)I" } : Jvm.MethodName)) ∈ lw_all := lw_in (lw_s5 (List.mem_of_getElem? (i := 84) (by decide +kernel))) (by decide +kernel)
theorem kw_1114 : (Jvm.Cond.instanceMethod ({ cls := "FareLimits", name := "judge", desc := "(III)I" } : Jvm.MethodName)) ∈ lw_all := lw_in (lw_s5 (List.mem_of_getElem? (i := 85) (by decide +kernel))) (by decide +kernel)
theorem kw_1115 : (Jvm.Cond.selects "FareLimits" ({ cls := "FareLimits", name := "judge", desc := "(III)I" } : Jvm.MethodName) ({ cls := "FareLimits", name := "judge", desc := "(III)I" } : Jvm.MethodName)) ∈ lw_all := lw_in (lw_s5 (List.mem_of_getElem? (i := 86) (by decide +kernel))) (by decide +kernel)
theorem kw_1116 : (Jvm.Cond.code ({ cls := "FareLimits", name := "judge", desc := "(III)I" } : Jvm.MethodName) prog_1_method_46_code (7 : Nat) (Option.some Jvm.ClassFile.FieldType.int)) ∈ lw_all := lw_in (lw_s5 (List.mem_of_getElem? (i := 87) (by decide +kernel))) (by decide +kernel)
theorem kw_1117 : (Jvm.Cond.methodLink "FareLimitsLaw" (140 : Nat) ({ cls := "FareLimits", name := "told", desc := "(I)I" } : Jvm.MethodName)) ∈ lw_all := lw_in (lw_s5 (List.mem_of_getElem? (i := 88) (by decide +kernel))) (by decide +kernel)
theorem kw_1118 : (Jvm.Cond.instanceMethod ({ cls := "FareLimits", name := "told", desc := "(I)I" } : Jvm.MethodName)) ∈ lw_all := lw_in (lw_s5 (List.mem_of_getElem? (i := 89) (by decide +kernel))) (by decide +kernel)
theorem kw_1119 : (Jvm.Cond.selects "FareLimits" ({ cls := "FareLimits", name := "told", desc := "(I)I" } : Jvm.MethodName) ({ cls := "FareLimits", name := "told", desc := "(I)I" } : Jvm.MethodName)) ∈ lw_all := lw_in (lw_s5 (List.mem_of_getElem? (i := 90) (by decide +kernel))) (by decide +kernel)
theorem kw_1120 : (Jvm.Cond.code ({ cls := "FareLimits", name := "told", desc := "(I)I" } : Jvm.MethodName) prog_1_method_47_code (2 : Nat) (Option.some Jvm.ClassFile.FieldType.int)) ∈ lw_all := lw_in (lw_s5 (List.mem_of_getElem? (i := 91) (by decide +kernel))) (by decide +kernel)
theorem kw_1121 : (Jvm.Cond.methodLink "FareLimits" (347 : Nat) ({ cls := "FareLimits$Plan", name := "unlikePrices", desc := "()I" } : Jvm.MethodName)) ∈ lw_all := lw_in (lw_s5 (List.mem_of_getElem? (i := 92) (by decide +kernel))) (by decide +kernel)
theorem kw_1122 : (Jvm.Cond.instanceMethod ({ cls := "FareLimits$Plan", name := "unlikePrices", desc := "()I" } : Jvm.MethodName)) ∈ lw_all := lw_in (lw_s5 (List.mem_of_getElem? (i := 93) (by decide +kernel))) (by decide +kernel)
theorem kw_1123 : (Jvm.Cond.selects "FareLimits$Plan" ({ cls := "FareLimits$Plan", name := "unlikePrices", desc := "()I" } : Jvm.MethodName) ({ cls := "FareLimits$Plan", name := "unlikePrices", desc := "()I" } : Jvm.MethodName)) ∈ lw_all := lw_in (lw_s5 (List.mem_of_getElem? (i := 94) (by decide +kernel))) (by decide +kernel)
theorem kw_1124 : (Jvm.Cond.code ({ cls := "FareLimits$Plan", name := "unlikePrices", desc := "()I" } : Jvm.MethodName) prog_7_method_5_code (5 : Nat) (Option.some Jvm.ClassFile.FieldType.int)) ∈ lw_all := lw_in (lw_s5 (List.mem_of_getElem? (i := 95) (by decide +kernel))) (by decide +kernel)
theorem kw_1125 : (Jvm.Cond.methodLink "FareLimits" (350 : Nat) ({ cls := "FareLimits$Plan", name := "greatestPrice", desc := "()I" } : Jvm.MethodName)) ∈ lw_all := lw_in (lw_s5 (List.mem_of_getElem? (i := 96) (by decide +kernel))) (by decide +kernel)
theorem kw_1126 : (Jvm.Cond.instanceMethod ({ cls := "FareLimits$Plan", name := "greatestPrice", desc := "()I" } : Jvm.MethodName)) ∈ lw_all := lw_in (lw_s5 (List.mem_of_getElem? (i := 97) (by decide +kernel))) (by decide +kernel)
theorem kw_1127 : (Jvm.Cond.selects "FareLimits$Plan" ({ cls := "FareLimits$Plan", name := "greatestPrice", desc := "()I" } : Jvm.MethodName) ({ cls := "FareLimits$Plan", name := "greatestPrice", desc := "()I" } : Jvm.MethodName)) ∈ lw_all := lw_in (lw_s5 (List.mem_of_getElem? (i := 98) (by decide +kernel))) (by decide +kernel)
theorem kw_1128 : (Jvm.Cond.code ({ cls := "FareLimits$Plan", name := "greatestPrice", desc := "()I" } : Jvm.MethodName) prog_7_method_6_code (3 : Nat) (Option.some Jvm.ClassFile.FieldType.int)) ∈ lw_all := lw_in (lw_s5 (List.mem_of_getElem? (i := 99) (by decide +kernel))) (by decide +kernel)
theorem kw_1129 : (Jvm.Cond.methodLink "FareLimits$Plan" (55 : Nat) ({ cls := "java/lang/Math", name := "max", desc := "(II)I" } : Jvm.MethodName)) ∈ lw_all := lw_in (lw_s5 (List.mem_of_getElem? (i := 100) (by decide +kernel))) (by decide +kernel)
theorem kw_1130 : (Jvm.Cond.methodLink "FareLimitsLaw" (204 : Nat) ({ cls := "FareLimits", name := "image", desc := "()I" } : Jvm.MethodName)) ∈ lw_all := lw_in (lw_s5 (List.mem_of_getElem? (i := 101) (by decide +kernel))) (by decide +kernel)
theorem kw_1131 : (Jvm.Cond.instanceMethod ({ cls := "FareLimits", name := "image", desc := "()I" } : Jvm.MethodName)) ∈ lw_all := lw_in (lw_s5 (List.mem_of_getElem? (i := 102) (by decide +kernel))) (by decide +kernel)
theorem kw_1132 : (Jvm.Cond.selects "FareLimits" ({ cls := "FareLimits", name := "image", desc := "()I" } : Jvm.MethodName) ({ cls := "FareLimits", name := "image", desc := "()I" } : Jvm.MethodName)) ∈ lw_all := lw_in (lw_s5 (List.mem_of_getElem? (i := 103) (by decide +kernel))) (by decide +kernel)
theorem kw_1133 : (Jvm.Cond.code ({ cls := "FareLimits", name := "image", desc := "()I" } : Jvm.MethodName) prog_1_method_48_code (1 : Nat) (Option.some Jvm.ClassFile.FieldType.int)) ∈ lw_all := lw_in (lw_s5 (List.mem_of_getElem? (i := 104) (by decide +kernel))) (by decide +kernel)
theorem kw_1134 : (Jvm.Cond.methodLink "FareLimits" (353 : Nat) ({ cls := "FareLimits$Plan", name := "become", desc := "(LFareLimits$Plan;)V" } : Jvm.MethodName)) ∈ lw_all := lw_in (lw_s5 (List.mem_of_getElem? (i := 105) (by decide +kernel))) (by decide +kernel)
theorem kw_1135 : (Jvm.Cond.instanceMethod ({ cls := "FareLimits$Plan", name := "become", desc := "(LFareLimits$Plan;)V" } : Jvm.MethodName)) ∈ lw_all := lw_in (lw_s5 (List.mem_of_getElem? (i := 106) (by decide +kernel))) (by decide +kernel)
theorem kw_1136 : (Jvm.Cond.selects "FareLimits$Plan" ({ cls := "FareLimits$Plan", name := "become", desc := "(LFareLimits$Plan;)V" } : Jvm.MethodName) ({ cls := "FareLimits$Plan", name := "become", desc := "(LFareLimits$Plan;)V" } : Jvm.MethodName)) ∈ lw_all := lw_in (lw_s5 (List.mem_of_getElem? (i := 107) (by decide +kernel))) (by decide +kernel)
theorem kw_1137 : (Jvm.Cond.code ({ cls := "FareLimits$Plan", name := "become", desc := "(LFareLimits$Plan;)V" } : Jvm.MethodName) prog_7_method_2_code (3 : Nat) (Option.none : Option Jvm.ClassFile.FieldType)) ∈ lw_all := lw_in (lw_s5 (List.mem_of_getElem? (i := 108) (by decide +kernel))) (by decide +kernel)
theorem kw_1138 : (Jvm.Cond.methodLink "FareLimits$Plan" (33 : Nat) ({ cls := "FareLimits$Fare", name := "become", desc := "(LFareLimits$Fare;)V" } : Jvm.MethodName)) ∈ lw_all := lw_in (lw_s5 (List.mem_of_getElem? (i := 109) (by decide +kernel))) (by decide +kernel)
theorem kw_1139 : (Jvm.Cond.instanceMethod ({ cls := "FareLimits$Fare", name := "become", desc := "(LFareLimits$Fare;)V" } : Jvm.MethodName)) ∈ lw_all := lw_in (lw_s5 (List.mem_of_getElem? (i := 110) (by decide +kernel))) (by decide +kernel)
theorem kw_1140 : (Jvm.Cond.selects "FareLimits$Fare" ({ cls := "FareLimits$Fare", name := "become", desc := "(LFareLimits$Fare;)V" } : Jvm.MethodName) ({ cls := "FareLimits$Fare", name := "become", desc := "(LFareLimits$Fare;)V" } : Jvm.MethodName)) ∈ lw_all := lw_in (lw_s5 (List.mem_of_getElem? (i := 111) (by decide +kernel))) (by decide +kernel)
theorem kw_1141 : (Jvm.Cond.code ({ cls := "FareLimits$Fare", name := "become", desc := "(LFareLimits$Fare;)V" } : Jvm.MethodName) prog_4_method_3_code (2 : Nat) (Option.none : Option Jvm.ClassFile.FieldType)) ∈ lw_all := lw_in (lw_s5 (List.mem_of_getElem? (i := 112) (by decide +kernel))) (by decide +kernel)
theorem kw_1142 : (Jvm.Cond.methodLink "FareLimits$Fare" (37 : Nat) ({ cls := "java/lang/System", name := "arraycopy", desc := "(Ljava/lang/Object;ILjava/lang/Object;II)V" } : Jvm.MethodName)) ∈ lw_all := lw_in (lw_s5 (List.mem_of_getElem? (i := 113) (by decide +kernel))) (by decide +kernel)
theorem kw_1143 : (Jvm.Cond.methodLink "FareLimits$Plan" (40 : Nat) ({ cls := "java/lang/System", name := "arraycopy", desc := "(Ljava/lang/Object;ILjava/lang/Object;II)V" } : Jvm.MethodName)) ∈ lw_all := lw_in (lw_s5 (List.mem_of_getElem? (i := 114) (by decide +kernel))) (by decide +kernel)
theorem kw_1144 : (Jvm.Cond.methodLink "FareLimits$Plan" (46 : Nat) ({ cls := "FareLimits$Network", name := "become", desc := "(LFareLimits$Network;)V" } : Jvm.MethodName)) ∈ lw_all := lw_in (lw_s5 (List.mem_of_getElem? (i := 115) (by decide +kernel))) (by decide +kernel)
theorem kw_1145 : (Jvm.Cond.instanceMethod ({ cls := "FareLimits$Network", name := "become", desc := "(LFareLimits$Network;)V" } : Jvm.MethodName)) ∈ lw_all := lw_in (lw_s5 (List.mem_of_getElem? (i := 116) (by decide +kernel))) (by decide +kernel)
theorem kw_1146 : (Jvm.Cond.selects "FareLimits$Network" ({ cls := "FareLimits$Network", name := "become", desc := "(LFareLimits$Network;)V" } : Jvm.MethodName) ({ cls := "FareLimits$Network", name := "become", desc := "(LFareLimits$Network;)V" } : Jvm.MethodName)) ∈ lw_all := lw_in (lw_s5 (List.mem_of_getElem? (i := 117) (by decide +kernel))) (by decide +kernel)
theorem kw_1147 : (Jvm.Cond.code ({ cls := "FareLimits$Network", name := "become", desc := "(LFareLimits$Network;)V" } : Jvm.MethodName) prog_6_method_2_code (3 : Nat) (Option.none : Option Jvm.ClassFile.FieldType)) ∈ lw_all := lw_in (lw_s5 (List.mem_of_getElem? (i := 118) (by decide +kernel))) (by decide +kernel)
theorem kw_1148 : (Jvm.Cond.methodLink "FareLimits$Network" (24 : Nat) ({ cls := "java/lang/System", name := "arraycopy", desc := "(Ljava/lang/Object;ILjava/lang/Object;II)V" } : Jvm.MethodName)) ∈ lw_all := lw_in (lw_s5 (List.mem_of_getElem? (i := 119) (by decide +kernel))) (by decide +kernel)
theorem kw_1149 : (Jvm.Cond.methodLink "FareLimitsLaw" (208 : Nat) ({ cls := "FareLimits", name := "undo", desc := "()I" } : Jvm.MethodName)) ∈ lw_all := lw_in (lw_s5 (List.mem_of_getElem? (i := 120) (by decide +kernel))) (by decide +kernel)
theorem kw_1150 : (Jvm.Cond.instanceMethod ({ cls := "FareLimits", name := "undo", desc := "()I" } : Jvm.MethodName)) ∈ lw_all := lw_in (lw_s5 (List.mem_of_getElem? (i := 121) (by decide +kernel))) (by decide +kernel)
theorem kw_1151 : (Jvm.Cond.selects "FareLimits" ({ cls := "FareLimits", name := "undo", desc := "()I" } : Jvm.MethodName) ({ cls := "FareLimits", name := "undo", desc := "()I" } : Jvm.MethodName)) ∈ lw_all := lw_in (lw_s5 (List.mem_of_getElem? (i := 122) (by decide +kernel))) (by decide +kernel)
theorem kw_1152 : (Jvm.Cond.code ({ cls := "FareLimits", name := "undo", desc := "()I" } : Jvm.MethodName) prog_1_method_49_code (1 : Nat) (Option.some Jvm.ClassFile.FieldType.int)) ∈ lw_all := lw_in (lw_s5 (List.mem_of_getElem? (i := 123) (by decide +kernel))) (by decide +kernel)
theorem kw_1153 : (Jvm.Cond.classLink "FareLimitsLaw" (10 : Nat) "FareLimitsModel") ∈ lw_all := lw_in (lw_s5 (List.mem_of_getElem? (i := 124) (by decide +kernel))) (by decide +kernel)
theorem kw_1154 : (Jvm.Cond.instantiable "FareLimitsModel" (29 : Nat)) ∈ lw_all := lw_in (lw_s5 (List.mem_of_getElem? (i := 125) (by decide +kernel))) (by decide +kernel)
theorem kw_1155 : (Jvm.Cond.methodLink "FareLimitsLaw" (12 : Nat) ({ cls := "FareLimitsModel", name := "<init>", desc := "()V" } : Jvm.MethodName)) ∈ lw_all := lw_in (lw_s5 (List.mem_of_getElem? (i := 126) (by decide +kernel))) (by decide +kernel)
theorem kw_1156 : (Jvm.Cond.instanceMethod ({ cls := "FareLimitsModel", name := "<init>", desc := "()V" } : Jvm.MethodName)) ∈ lw_all := lw_in (lw_s5 (List.mem_of_getElem? (i := 127) (by decide +kernel))) (by decide +kernel)
theorem kw_1157 : (Jvm.Cond.code ({ cls := "FareLimitsModel", name := "<init>", desc := "()V" } : Jvm.MethodName) prog_14_method_1_code (2 : Nat) (Option.none : Option Jvm.ClassFile.FieldType)) ∈ lw_all := lw_in (lw_s5 (List.mem_of_getElem? (i := 128) (by decide +kernel))) (by decide +kernel)
theorem kw_1158 : (Jvm.Cond.methodLink "FareLimitsModel" (3 : Nat) ({ cls := "java/lang/Object", name := "<init>", desc := "()V" } : Jvm.MethodName)) ∈ lw_all := lw_in (lw_s5 (List.mem_of_getElem? (i := 129) (by decide +kernel))) (by decide +kernel)
theorem kw_1159 : (Jvm.Cond.fieldLink "FareLimitsModel" (9 : Nat) "FareLimitsModel" "now" "[I") ∈ lw_all := lw_in (lw_s5 (List.mem_of_getElem? (i := 130) (by decide +kernel))) (by decide +kernel)
theorem kw_1160 : (Jvm.Cond.fieldLink "FareLimitsModel" (15 : Nat) "FareLimitsModel" "kept" "[I") ∈ lw_all := lw_in (lw_s5 (List.mem_of_getElem? (i := 131) (by decide +kernel))) (by decide +kernel)
theorem kw_1161 : (Jvm.Cond.fieldLink "FareLimitsModel" (347 : Nat) "FareLimitsModel" "hasImage" "Z") ∈ lw_all := lw_in (lw_s5 (List.mem_of_getElem? (i := 132) (by decide +kernel))) (by decide +kernel)
theorem kw_1162 : (Jvm.Cond.fieldLink "FareLimitsModel" (260 : Nat) "FareLimitsModel" "taped" "I") ∈ lw_all := lw_in (lw_s5 (List.mem_of_getElem? (i := 133) (by decide +kernel))) (by decide +kernel)
theorem kw_1163 : (Jvm.Cond.fieldLink "FareLimitsModel" (18 : Nat) "FareLimitsModel" "tape" "[I") ∈ lw_all := lw_in (lw_s5 (List.mem_of_getElem? (i := 134) (by decide +kernel))) (by decide +kernel)
theorem kw_1164 : (Jvm.Cond.fieldLink "FareLimitsModel" (315 : Nat) "FareLimitsModel" "written" "I") ∈ lw_all := lw_in (lw_s5 (List.mem_of_getElem? (i := 135) (by decide +kernel))) (by decide +kernel)
theorem kw_1165 : (Jvm.Cond.fieldLink "FareLimitsModel" (21 : Nat) "FareLimitsModel" "paper" "[I") ∈ lw_all := lw_in (lw_s5 (List.mem_of_getElem? (i := 136) (by decide +kernel))) (by decide +kernel)
theorem kw_1166 : (Jvm.Cond.fieldLink "FareLimitsModel" (24 : Nat) "FareLimitsModel" "trayKind" "[I") ∈ lw_all := lw_in (lw_s5 (List.mem_of_getElem? (i := 137) (by decide +kernel))) (by decide +kernel)
theorem kw_1167 : (Jvm.Cond.fieldLink "FareLimitsModel" (27 : Nat) "FareLimitsModel" "traySize" "[I") ∈ lw_all := lw_in (lw_s5 (List.mem_of_getElem? (i := 138) (by decide +kernel))) (by decide +kernel)
theorem kw_1168 : (Jvm.Cond.fieldLink "FareLimitsModel" (30 : Nat) "FareLimitsModel" "laid" "[I") ∈ lw_all := lw_in (lw_s5 (List.mem_of_getElem? (i := 139) (by decide +kernel))) (by decide +kernel)
theorem kw_1169 : (Jvm.Cond.fieldLink "FareLimitsModel" (33 : Nat) "FareLimitsModel" "listSize" "[I") ∈ lw_all := lw_in (lw_s5 (List.mem_of_getElem? (i := 140) (by decide +kernel))) (by decide +kernel)
theorem kw_1170 : (Jvm.Cond.fieldLink "FareLimitsModel" (36 : Nat) "FareLimitsModel" "items" "[J") ∈ lw_all := lw_in (lw_s5 (List.mem_of_getElem? (i := 141) (by decide +kernel))) (by decide +kernel)
theorem kw_1171 : (Jvm.Cond.fieldLink "FareLimitsModel" (40 : Nat) "FareLimitsModel" "worths" "[D") ∈ lw_all := lw_in (lw_s5 (List.mem_of_getElem? (i := 142) (by decide +kernel))) (by decide +kernel)
theorem kw_1172 : (Jvm.Cond.fieldLink "FareLimitsModel" (44 : Nat) "FareLimitsModel" "chances" "[D") ∈ lw_all := lw_in (lw_s5 (List.mem_of_getElem? (i := 143) (by decide +kernel))) (by decide +kernel)
theorem kw_1173 : (Jvm.Cond.fieldLink "FareLimitsModel" (47 : Nat) "FareLimitsModel" "fewer" "[D") ∈ lw_all := lw_in (lw_s5 (List.mem_of_getElem? (i := 144) (by decide +kernel))) (by decide +kernel)
theorem kw_1174 : (Jvm.Cond.fieldLink "FareLimitsModel" (152 : Nat) "FareLimitsModel" "isOver" "Z") ∈ lw_all := lw_in (lw_s5 (List.mem_of_getElem? (i := 145) (by decide +kernel))) (by decide +kernel)
theorem kw_1175 : (Jvm.Cond.fieldLink "FareLimitsModel" (50 : Nat) "FareLimitsModel" "grosses" "[J") ∈ lw_all := lw_in (lw_s5 (List.mem_of_getElem? (i := 146) (by decide +kernel))) (by decide +kernel)
theorem kw_1176 : (Jvm.Cond.fieldLink "FareLimitsModel" (53 : Nat) "FareLimitsModel" "isGreat" "[Z") ∈ lw_all := lw_in (lw_s5 (List.mem_of_getElem? (i := 147) (by decide +kernel))) (by decide +kernel)
theorem kw_1177 : (Jvm.Cond.fieldLink "FareLimitsModel" (57 : Nat) "FareLimitsModel" "sets" "[J") ∈ lw_all := lw_in (lw_s5 (List.mem_of_getElem? (i := 148) (by decide +kernel))) (by decide +kernel)
theorem kw_1178 : (Jvm.Cond.fieldLink "FareLimitsModel" (60 : Nat) "FareLimitsModel" "had" "[I") ∈ lw_all := lw_in (lw_s5 (List.mem_of_getElem? (i := 149) (by decide +kernel))) (by decide +kernel)
theorem kw_1179 : (Jvm.Cond.fieldLink "FareLimitsModel" (201 : Nat) "FareLimitsModel" "left" "I") ∈ lw_all := lw_in (lw_s5 (List.mem_of_getElem? (i := 150) (by decide +kernel))) (by decide +kernel)
theorem kw_1180 : (Jvm.Cond.fieldLink "FareLimitsModel" (211 : Nat) "FareLimitsModel" "prices" "I") ∈ lw_all := lw_in (lw_s5 (List.mem_of_getElem? (i := 151) (by decide +kernel))) (by decide +kernel)
theorem kw_1181 : (Jvm.Cond.fieldLink "FareLimitsModel" (205 : Nat) "FareLimitsModel" "askers" "I") ∈ lw_all := lw_in (lw_s5 (List.mem_of_getElem? (i := 152) (by decide +kernel))) (by decide +kernel)
theorem kw_1182 : (Jvm.Cond.fieldLink "FareLimitsModel" (63 : Nat) "FareLimitsModel" "isGone" "[Z") ∈ lw_all := lw_in (lw_s5 (List.mem_of_getElem? (i := 153) (by decide +kernel))) (by decide +kernel)
theorem kw_1183 : (Jvm.Cond.fieldLink "FareLimitsModel" (266 : Nat) "FareLimitsModel" "at" "I") ∈ lw_all := lw_in (lw_s5 (List.mem_of_getElem? (i := 154) (by decide +kernel))) (by decide +kernel)
theorem kw_1184 : (Jvm.Cond.fieldLink "FareLimitsModel" (263 : Nat) "FareLimitsModel" "fault" "I") ∈ lw_all := lw_in (lw_s5 (List.mem_of_getElem? (i := 155) (by decide +kernel))) (by decide +kernel)
theorem kw_1185 : (Jvm.Cond.fieldLink "FareLimitsModel" (66 : Nat) "FareLimitsModel" "read" "[I") ∈ lw_all := lw_in (lw_s5 (List.mem_of_getElem? (i := 156) (by decide +kernel))) (by decide +kernel)
theorem kw_1186 : (Jvm.Cond.fieldLink "FareLimitsModel" (69 : Nat) "FareLimitsModel" "ahead" "[I") ∈ lw_all := lw_in (lw_s5 (List.mem_of_getElem? (i := 157) (by decide +kernel))) (by decide +kernel)
theorem kw_1187 : (Jvm.Cond.fieldLink "FareLimitsModel" (304 : Nat) "FareLimitsModel" "asked" "I") ∈ lw_all := lw_in (lw_s5 (List.mem_of_getElem? (i := 158) (by decide +kernel))) (by decide +kernel)
theorem kw_1188 : (Jvm.Cond.laysFinal "FareLimitsModel" "FareLimitsModel" "now" "[I") ∈ lw_all := lw_in (lw_s5 (List.mem_of_getElem? (i := 159) (by decide +kernel))) (by decide +kernel)
theorem kw_1190 : (Jvm.Cond.laysFinal "FareLimitsModel" "FareLimitsModel" "kept" "[I") ∈ lw_all := lw_in (lw_s5 (List.mem_of_getElem? (i := 161) (by decide +kernel))) (by decide +kernel)
theorem kw_1192 : (Jvm.Cond.lays "FareLimitsModel" "FareLimitsModel" "hasImage" "Z") ∈ lw_all := lw_in (lw_s5 (List.mem_of_getElem? (i := 163) (by decide +kernel))) (by decide +kernel)
theorem kw_1194 : (Jvm.Cond.lays "FareLimitsModel" "FareLimitsModel" "taped" "I") ∈ lw_all := lw_in (lw_s5 (List.mem_of_getElem? (i := 165) (by decide +kernel))) (by decide +kernel)
theorem kw_1196 : (Jvm.Cond.laysFinal "FareLimitsModel" "FareLimitsModel" "tape" "[I") ∈ lw_all := lw_in (lw_s5 (List.mem_of_getElem? (i := 167) (by decide +kernel))) (by decide +kernel)
theorem kw_1198 : (Jvm.Cond.lays "FareLimitsModel" "FareLimitsModel" "written" "I") ∈ lw_all := lw_in (lw_s5 (List.mem_of_getElem? (i := 169) (by decide +kernel))) (by decide +kernel)
theorem kw_1200 : (Jvm.Cond.laysFinal "FareLimitsModel" "FareLimitsModel" "paper" "[I") ∈ lw_all := lw_in (lw_s5 (List.mem_of_getElem? (i := 171) (by decide +kernel))) (by decide +kernel)
theorem kw_1202 : (Jvm.Cond.laysFinal "FareLimitsModel" "FareLimitsModel" "trayKind" "[I") ∈ lw_all := lw_in (lw_s5 (List.mem_of_getElem? (i := 173) (by decide +kernel))) (by decide +kernel)
theorem kw_1204 : (Jvm.Cond.laysFinal "FareLimitsModel" "FareLimitsModel" "traySize" "[I") ∈ lw_all := lw_in (lw_s5 (List.mem_of_getElem? (i := 175) (by decide +kernel))) (by decide +kernel)
theorem kw_1206 : (Jvm.Cond.laysFinal "FareLimitsModel" "FareLimitsModel" "laid" "[I") ∈ lw_all := lw_in (lw_s5 (List.mem_of_getElem? (i := 177) (by decide +kernel))) (by decide +kernel)
theorem kw_1208 : (Jvm.Cond.laysFinal "FareLimitsModel" "FareLimitsModel" "listSize" "[I") ∈ lw_all := lw_in (lw_s5 (List.mem_of_getElem? (i := 179) (by decide +kernel))) (by decide +kernel)
theorem kw_1210 : (Jvm.Cond.laysFinal "FareLimitsModel" "FareLimitsModel" "items" "[J") ∈ lw_all := lw_in (lw_s5 (List.mem_of_getElem? (i := 181) (by decide +kernel))) (by decide +kernel)
theorem kw_1212 : (Jvm.Cond.laysFinal "FareLimitsModel" "FareLimitsModel" "worths" "[D") ∈ lw_all := lw_in (lw_s5 (List.mem_of_getElem? (i := 183) (by decide +kernel))) (by decide +kernel)
theorem kw_1214 : (Jvm.Cond.laysFinal "FareLimitsModel" "FareLimitsModel" "chances" "[D") ∈ lw_all := lw_in (lw_s5 (List.mem_of_getElem? (i := 185) (by decide +kernel))) (by decide +kernel)
theorem kw_1216 : (Jvm.Cond.laysFinal "FareLimitsModel" "FareLimitsModel" "fewer" "[D") ∈ lw_all := lw_in (lw_s5 (List.mem_of_getElem? (i := 187) (by decide +kernel))) (by decide +kernel)
theorem kw_1218 : (Jvm.Cond.lays "FareLimitsModel" "FareLimitsModel" "isOver" "Z") ∈ lw_all := lw_in (lw_s5 (List.mem_of_getElem? (i := 189) (by decide +kernel))) (by decide +kernel)
theorem kw_1220 : (Jvm.Cond.laysFinal "FareLimitsModel" "FareLimitsModel" "grosses" "[J") ∈ lw_all := lw_in (lw_s5 (List.mem_of_getElem? (i := 191) (by decide +kernel))) (by decide +kernel)
theorem kw_1222 : (Jvm.Cond.laysFinal "FareLimitsModel" "FareLimitsModel" "isGreat" "[Z") ∈ lw_all := lw_in (lw_s5 (List.mem_of_getElem? (i := 193) (by decide +kernel))) (by decide +kernel)
theorem kw_1224 : (Jvm.Cond.laysFinal "FareLimitsModel" "FareLimitsModel" "sets" "[J") ∈ lw_all := lw_in (lw_s5 (List.mem_of_getElem? (i := 195) (by decide +kernel))) (by decide +kernel)
theorem kw_1226 : (Jvm.Cond.laysFinal "FareLimitsModel" "FareLimitsModel" "had" "[I") ∈ lw_all := lw_in (lw_s5 (List.mem_of_getElem? (i := 197) (by decide +kernel))) (by decide +kernel)
theorem kw_1228 : (Jvm.Cond.lays "FareLimitsModel" "FareLimitsModel" "left" "I") ∈ lw_all := lw_in (lw_s5 (List.mem_of_getElem? (i := 199) (by decide +kernel))) (by decide +kernel)
theorem kw_1230 : (Jvm.Cond.lays "FareLimitsModel" "FareLimitsModel" "prices" "I") ∈ lw_all := lw_in (lw_s5 (List.mem_of_getElem? (i := 201) (by decide +kernel))) (by decide +kernel)
theorem kw_1232 : (Jvm.Cond.lays "FareLimitsModel" "FareLimitsModel" "askers" "I") ∈ lw_all := lw_in (lw_s5 (List.mem_of_getElem? (i := 203) (by decide +kernel))) (by decide +kernel)
theorem kw_1234 : (Jvm.Cond.laysFinal "FareLimitsModel" "FareLimitsModel" "isGone" "[Z") ∈ lw_all := lw_in (lw_s5 (List.mem_of_getElem? (i := 205) (by decide +kernel))) (by decide +kernel)
theorem kw_1236 : (Jvm.Cond.lays "FareLimitsModel" "FareLimitsModel" "at" "I") ∈ lw_all := lw_in (lw_s5 (List.mem_of_getElem? (i := 207) (by decide +kernel))) (by decide +kernel)
theorem kw_1238 : (Jvm.Cond.lays "FareLimitsModel" "FareLimitsModel" "fault" "I") ∈ lw_all := lw_in (lw_s5 (List.mem_of_getElem? (i := 209) (by decide +kernel))) (by decide +kernel)
theorem kw_1240 : (Jvm.Cond.laysFinal "FareLimitsModel" "FareLimitsModel" "read" "[I") ∈ lw_all := lw_in (lw_s5 (List.mem_of_getElem? (i := 211) (by decide +kernel))) (by decide +kernel)
theorem kw_1242 : (Jvm.Cond.laysFinal "FareLimitsModel" "FareLimitsModel" "ahead" "[I") ∈ lw_all := lw_in (lw_s5 (List.mem_of_getElem? (i := 213) (by decide +kernel))) (by decide +kernel)
theorem kw_1244 : (Jvm.Cond.lays "FareLimitsModel" "FareLimitsModel" "asked" "I") ∈ lw_all := lw_in (lw_s5 (List.mem_of_getElem? (i := 215) (by decide +kernel))) (by decide +kernel)
theorem kw_1246 : (Jvm.Cond.superclass "FareLimitsModel" "java/lang/Object") ∈ lw_all := lw_in (lw_s5 (List.mem_of_getElem? (i := 217) (by decide +kernel))) (by decide +kernel)
theorem kw_1247 : (Jvm.Cond.arrayClass Jvm.ClassFile.FieldType.boolean) ∈ lw_all := lw_in (lw_s5 (List.mem_of_getElem? (i := 218) (by decide +kernel))) (by decide +kernel)
theorem kw_1248 : (Jvm.Cond.methodLink "FareLimitsLaw" (17 : Nat) ({ cls := "FareLimitsModel", name := "fare", desc := "(II)I" } : Jvm.MethodName)) ∈ lw_all := lw_in (lw_s5 (List.mem_of_getElem? (i := 219) (by decide +kernel))) (by decide +kernel)
theorem kw_1249 : (Jvm.Cond.instanceMethod ({ cls := "FareLimitsModel", name := "fare", desc := "(II)I" } : Jvm.MethodName)) ∈ lw_all := lw_in (lw_s5 (List.mem_of_getElem? (i := 220) (by decide +kernel))) (by decide +kernel)
theorem kw_1250 : (Jvm.Cond.selects "FareLimitsModel" ({ cls := "FareLimitsModel", name := "fare", desc := "(II)I" } : Jvm.MethodName) ({ cls := "FareLimitsModel", name := "fare", desc := "(II)I" } : Jvm.MethodName)) ∈ lw_all := lw_in (lw_s5 (List.mem_of_getElem? (i := 221) (by decide +kernel))) (by decide +kernel)
theorem kw_1251 : (Jvm.Cond.code ({ cls := "FareLimitsModel", name := "fare", desc := "(II)I" } : Jvm.MethodName) prog_14_method_8_code (5 : Nat) (Option.some Jvm.ClassFile.FieldType.int)) ∈ lw_all := lw_in (lw_s5 (List.mem_of_getElem? (i := 222) (by decide +kernel))) (by decide +kernel)
theorem kw_1252 : (Jvm.Cond.constantLong "FareLimitsModel" (78 : Nat) (3 : Int64)) ∈ lw_all := lw_in (lw_s5 (List.mem_of_getElem? (i := 223) (by decide +kernel))) (by decide +kernel)
theorem kw_1253 : (Jvm.Cond.methodLink "FareLimitsModel" (72 : Nat) ({ cls := "FareLimitsModel", name := "in", desc := "(JJJ)Z" } : Jvm.MethodName)) ∈ lw_all := lw_in (lw_s5 (List.mem_of_getElem? (i := 224) (by decide +kernel))) (by decide +kernel)
theorem kw_1254 : (Jvm.Cond.static ({ cls := "FareLimitsModel", name := "in", desc := "(JJJ)Z" } : Jvm.MethodName)) ∈ lw_all := lw_in (lw_s5 (List.mem_of_getElem? (i := 225) (by decide +kernel))) (by decide +kernel)
theorem kw_1255 : (Jvm.Cond.code ({ cls := "FareLimitsModel", name := "in", desc := "(JJJ)Z" } : Jvm.MethodName) prog_14_method_2_code (6 : Nat) (Option.some Jvm.ClassFile.FieldType.boolean)) ∈ lw_all := lw_in (lw_s5 (List.mem_of_getElem? (i := 226) (by decide +kernel))) (by decide +kernel)
theorem kw_1256 : (Jvm.Cond.constantLong "FareLimitsModel" (80 : Nat) (9999 : Int64)) ∈ lw_all := lw_in (lw_s5 (List.mem_of_getElem? (i := 227) (by decide +kernel))) (by decide +kernel)
theorem kw_1257 : (Jvm.Cond.methodLink "FareLimitsLaw" (21 : Nat) ({ cls := "FareLimitsModel", name := "of", desc := "(II)I" } : Jvm.MethodName)) ∈ lw_all := lw_in (lw_s5 (List.mem_of_getElem? (i := 228) (by decide +kernel))) (by decide +kernel)
theorem kw_1258 : (Jvm.Cond.instanceMethod ({ cls := "FareLimitsModel", name := "of", desc := "(II)I" } : Jvm.MethodName)) ∈ lw_all := lw_in (lw_s5 (List.mem_of_getElem? (i := 229) (by decide +kernel))) (by decide +kernel)
theorem kw_1259 : (Jvm.Cond.selects "FareLimitsModel" ({ cls := "FareLimitsModel", name := "of", desc := "(II)I" } : Jvm.MethodName) ({ cls := "FareLimitsModel", name := "of", desc := "(II)I" } : Jvm.MethodName)) ∈ lw_all := lw_in (lw_s5 (List.mem_of_getElem? (i := 230) (by decide +kernel))) (by decide +kernel)
theorem kw_1260 : (Jvm.Cond.code ({ cls := "FareLimitsModel", name := "of", desc := "(II)I" } : Jvm.MethodName) prog_14_method_9_code (3 : Nat) (Option.some Jvm.ClassFile.FieldType.int)) ∈ lw_all := lw_in (lw_s5 (List.mem_of_getElem? (i := 231) (by decide +kernel))) (by decide +kernel)
theorem kw_1261 : (Jvm.Cond.methodLink "FareLimitsModel" (82 : Nat) ({ cls := "FareLimitsModel", name := "isFare", desc := "(I)Z" } : Jvm.MethodName)) ∈ lw_all := lw_in (lw_s5 (List.mem_of_getElem? (i := 232) (by decide +kernel))) (by decide +kernel)
theorem kw_1263 : (Jvm.Cond.instanceMethod ({ cls := "FareLimitsModel", name := "isFare", desc := "(I)Z" } : Jvm.MethodName)) ∈ lw_all := lw_in (lw_s5 (List.mem_of_getElem? (i := 234) (by decide +kernel))) (by decide +kernel)
theorem kw_1264 : (Jvm.Cond.code ({ cls := "FareLimitsModel", name := "isFare", desc := "(I)Z" } : Jvm.MethodName) prog_14_method_3_code (2 : Nat) (Option.some Jvm.ClassFile.FieldType.boolean)) ∈ lw_all := lw_in (lw_s5 (List.mem_of_getElem? (i := 235) (by decide +kernel))) (by decide +kernel)
theorem kw_1265 : (Jvm.Cond.constantLong "FareLimitsModel" (86 : Nat) (5 : Int64)) ∈ lw_all := lw_in (lw_s5 (List.mem_of_getElem? (i := 236) (by decide +kernel))) (by decide +kernel)
theorem kw_1266 : (Jvm.Cond.methodLink "FareLimitsModel" (88 : Nat) ({ cls := "FareLimitsModel", name := "price", desc := "(I)I" } : Jvm.MethodName)) ∈ lw_all := lw_in (lw_s5 (List.mem_of_getElem? (i := 237) (by decide +kernel))) (by decide +kernel)
theorem kw_1268 : (Jvm.Cond.instanceMethod ({ cls := "FareLimitsModel", name := "price", desc := "(I)I" } : Jvm.MethodName)) ∈ lw_all := lw_in (lw_s5 (List.mem_of_getElem? (i := 239) (by decide +kernel))) (by decide +kernel)
theorem kw_1269 : (Jvm.Cond.code ({ cls := "FareLimitsModel", name := "price", desc := "(I)I" } : Jvm.MethodName) prog_14_method_6_code (2 : Nat) (Option.some Jvm.ClassFile.FieldType.int)) ∈ lw_all := lw_in (lw_s6 (List.mem_of_getElem? (i := 0) (by decide +kernel))) (by decide +kernel)
theorem kw_1270 : (Jvm.Cond.methodLink "FareLimitsLaw" (26 : Nat) ({ cls := "FareLimitsModel", name := "odds", desc := "(III)I" } : Jvm.MethodName)) ∈ lw_all := lw_in (lw_s6 (List.mem_of_getElem? (i := 1) (by decide +kernel))) (by decide +kernel)
theorem kw_1271 : (Jvm.Cond.instanceMethod ({ cls := "FareLimitsModel", name := "odds", desc := "(III)I" } : Jvm.MethodName)) ∈ lw_all := lw_in (lw_s6 (List.mem_of_getElem? (i := 2) (by decide +kernel))) (by decide +kernel)
theorem kw_1272 : (Jvm.Cond.selects "FareLimitsModel" ({ cls := "FareLimitsModel", name := "odds", desc := "(III)I" } : Jvm.MethodName) ({ cls := "FareLimitsModel", name := "odds", desc := "(III)I" } : Jvm.MethodName)) ∈ lw_all := lw_in (lw_s6 (List.mem_of_getElem? (i := 3) (by decide +kernel))) (by decide +kernel)
theorem kw_1273 : (Jvm.Cond.code ({ cls := "FareLimitsModel", name := "odds", desc := "(III)I" } : Jvm.MethodName) prog_14_method_10_code (6 : Nat) (Option.some Jvm.ClassFile.FieldType.int)) ∈ lw_all := lw_in (lw_s6 (List.mem_of_getElem? (i := 4) (by decide +kernel))) (by decide +kernel)
theorem kw_1274 : (Jvm.Cond.constantLong "FareLimitsModel" (92 : Nat) (100 : Int64)) ∈ lw_all := lw_in (lw_s6 (List.mem_of_getElem? (i := 5) (by decide +kernel))) (by decide +kernel)
theorem kw_1275 : (Jvm.Cond.methodLink "FareLimitsLaw" (31 : Nat) ({ cls := "FareLimitsModel", name := "drop", desc := "()I" } : Jvm.MethodName)) ∈ lw_all := lw_in (lw_s6 (List.mem_of_getElem? (i := 6) (by decide +kernel))) (by decide +kernel)
theorem kw_1276 : (Jvm.Cond.instanceMethod ({ cls := "FareLimitsModel", name := "drop", desc := "()I" } : Jvm.MethodName)) ∈ lw_all := lw_in (lw_s6 (List.mem_of_getElem? (i := 7) (by decide +kernel))) (by decide +kernel)
theorem kw_1277 : (Jvm.Cond.selects "FareLimitsModel" ({ cls := "FareLimitsModel", name := "drop", desc := "()I" } : Jvm.MethodName) ({ cls := "FareLimitsModel", name := "drop", desc := "()I" } : Jvm.MethodName)) ∈ lw_all := lw_in (lw_s6 (List.mem_of_getElem? (i := 8) (by decide +kernel))) (by decide +kernel)
theorem kw_1278 : (Jvm.Cond.code ({ cls := "FareLimitsModel", name := "drop", desc := "()I" } : Jvm.MethodName) prog_14_method_11_code (1 : Nat) (Option.some Jvm.ClassFile.FieldType.int)) ∈ lw_all := lw_in (lw_s6 (List.mem_of_getElem? (i := 9) (by decide +kernel))) (by decide +kernel)
theorem kw_1279 : (Jvm.Cond.methodLink "FareLimitsLaw" (35 : Nat) ({ cls := "FareLimitsModel", name := "rule", desc := "(II)I" } : Jvm.MethodName)) ∈ lw_all := lw_in (lw_s6 (List.mem_of_getElem? (i := 10) (by decide +kernel))) (by decide +kernel)
theorem kw_1280 : (Jvm.Cond.instanceMethod ({ cls := "FareLimitsModel", name := "rule", desc := "(II)I" } : Jvm.MethodName)) ∈ lw_all := lw_in (lw_s6 (List.mem_of_getElem? (i := 11) (by decide +kernel))) (by decide +kernel)
theorem kw_1281 : (Jvm.Cond.selects "FareLimitsModel" ({ cls := "FareLimitsModel", name := "rule", desc := "(II)I" } : Jvm.MethodName) ({ cls := "FareLimitsModel", name := "rule", desc := "(II)I" } : Jvm.MethodName)) ∈ lw_all := lw_in (lw_s6 (List.mem_of_getElem? (i := 12) (by decide +kernel))) (by decide +kernel)
theorem kw_1282 : (Jvm.Cond.code ({ cls := "FareLimitsModel", name := "rule", desc := "(II)I" } : Jvm.MethodName) prog_14_method_12_code (4 : Nat) (Option.some Jvm.ClassFile.FieldType.int)) ∈ lw_all := lw_in (lw_s6 (List.mem_of_getElem? (i := 13) (by decide +kernel))) (by decide +kernel)
theorem kw_1283 : (Jvm.Cond.constantLong "FareLimitsModel" (94 : Nat) (30 : Int64)) ∈ lw_all := lw_in (lw_s6 (List.mem_of_getElem? (i := 14) (by decide +kernel))) (by decide +kernel)
theorem kw_1284 : (Jvm.Cond.constantLong "FareLimitsModel" (96 : Nat) (50 : Int64)) ∈ lw_all := lw_in (lw_s6 (List.mem_of_getElem? (i := 15) (by decide +kernel))) (by decide +kernel)
theorem kw_1285 : (Jvm.Cond.methodLink "FareLimitsLaw" (40 : Nat) ({ cls := "FareLimitsModel", name := "shows", desc := "(I)J" } : Jvm.MethodName)) ∈ lw_all := lw_in (lw_s6 (List.mem_of_getElem? (i := 16) (by decide +kernel))) (by decide +kernel)
theorem kw_1286 : (Jvm.Cond.instanceMethod ({ cls := "FareLimitsModel", name := "shows", desc := "(I)J" } : Jvm.MethodName)) ∈ lw_all := lw_in (lw_s6 (List.mem_of_getElem? (i := 17) (by decide +kernel))) (by decide +kernel)
theorem kw_1287 : (Jvm.Cond.selects "FareLimitsModel" ({ cls := "FareLimitsModel", name := "shows", desc := "(I)J" } : Jvm.MethodName) ({ cls := "FareLimitsModel", name := "shows", desc := "(I)J" } : Jvm.MethodName)) ∈ lw_all := lw_in (lw_s6 (List.mem_of_getElem? (i := 18) (by decide +kernel))) (by decide +kernel)
theorem kw_1288 : (Jvm.Cond.code ({ cls := "FareLimitsModel", name := "shows", desc := "(I)J" } : Jvm.MethodName) prog_14_method_16_code (2 : Nat) (Option.some Jvm.ClassFile.FieldType.long)) ∈ lw_all := lw_in (lw_s6 (List.mem_of_getElem? (i := 19) (by decide +kernel))) (by decide +kernel)
theorem kw_1289 : (Jvm.Cond.methodLink "FareLimitsModel" (111 : Nat) ({ cls := "FareLimitsModel", name := "isStage", desc := "(I)Z" } : Jvm.MethodName)) ∈ lw_all := lw_in (lw_s6 (List.mem_of_getElem? (i := 20) (by decide +kernel))) (by decide +kernel)
theorem kw_1290 : (Jvm.Cond.static ({ cls := "FareLimitsModel", name := "isStage", desc := "(I)Z" } : Jvm.MethodName)) ∈ lw_all := lw_in (lw_s6 (List.mem_of_getElem? (i := 21) (by decide +kernel))) (by decide +kernel)
theorem kw_1291 : (Jvm.Cond.code ({ cls := "FareLimitsModel", name := "isStage", desc := "(I)Z" } : Jvm.MethodName) prog_14_method_4_code (1 : Nat) (Option.some Jvm.ClassFile.FieldType.boolean)) ∈ lw_all := lw_in (lw_s6 (List.mem_of_getElem? (i := 22) (by decide +kernel))) (by decide +kernel)
theorem kw_1292 : (Jvm.Cond.constantLong "FareLimitsModel" (76 : Nat) (20 : Int64)) ∈ lw_all := lw_in (lw_s6 (List.mem_of_getElem? (i := 23) (by decide +kernel))) (by decide +kernel)
theorem kw_1293 : (Jvm.Cond.methodLink "FareLimitsModel" (104 : Nat) ({ cls := "FareLimitsModel", name := "showing", desc := "(I)D" } : Jvm.MethodName)) ∈ lw_all := lw_in (lw_s6 (List.mem_of_getElem? (i := 24) (by decide +kernel))) (by decide +kernel)
theorem kw_1295 : (Jvm.Cond.instanceMethod ({ cls := "FareLimitsModel", name := "showing", desc := "(I)D" } : Jvm.MethodName)) ∈ lw_all := lw_in (lw_s6 (List.mem_of_getElem? (i := 26) (by decide +kernel))) (by decide +kernel)
theorem kw_1296 : (Jvm.Cond.code ({ cls := "FareLimitsModel", name := "showing", desc := "(I)D" } : Jvm.MethodName) prog_14_method_13_code (7 : Nat) (Option.some Jvm.ClassFile.FieldType.double)) ∈ lw_all := lw_in (lw_s6 (List.mem_of_getElem? (i := 27) (by decide +kernel))) (by decide +kernel)
theorem kw_1297 : (Jvm.Cond.constantDouble "FareLimitsModel" (98 : Nat) (4636737291354636288 : UInt64)) ∈ lw_all := lw_in (lw_s6 (List.mem_of_getElem? (i := 28) (by decide +kernel))) (by decide +kernel)
theorem kw_1298 : (Jvm.Cond.methodLink "FareLimitsModel" (114 : Nat) ({ cls := "java/lang/Double", name := "doubleToLongBits", desc := "(D)J" } : Jvm.MethodName)) ∈ lw_all := lw_in (lw_s6 (List.mem_of_getElem? (i := 29) (by decide +kernel))) (by decide +kernel)
theorem kw_1299 : (Jvm.Cond.static ({ cls := "java/lang/Double", name := "doubleToLongBits", desc := "(D)J" } : Jvm.MethodName)) ∈ lw_all := lw_in (lw_s6 (List.mem_of_getElem? (i := 30) (by decide +kernel))) (by decide +kernel)
theorem kw_1300 : (Jvm.Cond.code ({ cls := "java/lang/Double", name := "doubleToLongBits", desc := "(D)J" } : Jvm.MethodName) prog_17_method_23_code (2 : Nat) (Option.some Jvm.ClassFile.FieldType.long)) ∈ lw_all := lw_in (lw_s6 (List.mem_of_getElem? (i := 31) (by decide +kernel))) (by decide +kernel)
theorem kw_1301 : (Jvm.Cond.methodLink "java/lang/Double" (122 : Nat) ({ cls := "java/lang/Double", name := "isNaN", desc := "(D)Z" } : Jvm.MethodName)) ∈ lw_all := lw_in (lw_s6 (List.mem_of_getElem? (i := 32) (by decide +kernel))) (by decide +kernel)
theorem kw_1302 : (Jvm.Cond.static ({ cls := "java/lang/Double", name := "isNaN", desc := "(D)Z" } : Jvm.MethodName)) ∈ lw_all := lw_in (lw_s6 (List.mem_of_getElem? (i := 33) (by decide +kernel))) (by decide +kernel)
theorem kw_1303 : (Jvm.Cond.code ({ cls := "java/lang/Double", name := "isNaN", desc := "(D)Z" } : Jvm.MethodName) prog_17_method_6_code (2 : Nat) (Option.some Jvm.ClassFile.FieldType.boolean)) ∈ lw_all := lw_in (lw_s6 (List.mem_of_getElem? (i := 34) (by decide +kernel))) (by decide +kernel)
theorem kw_1304 : (Jvm.Cond.methodLink "java/lang/Double" (134 : Nat) ({ cls := "java/lang/Double", name := "doubleToRawLongBits", desc := "(D)J" } : Jvm.MethodName)) ∈ lw_all := lw_in (lw_s6 (List.mem_of_getElem? (i := 35) (by decide +kernel))) (by decide +kernel)
theorem kw_1305 : (Jvm.Cond.static ({ cls := "java/lang/Double", name := "doubleToRawLongBits", desc := "(D)J" } : Jvm.MethodName)) ∈ lw_all := lw_in (lw_s6 (List.mem_of_getElem? (i := 36) (by decide +kernel))) (by decide +kernel)
theorem kw_1306 : (Jvm.Cond.native ({ cls := "java/lang/Double", name := "doubleToRawLongBits", desc := "(D)J" } : Jvm.MethodName)) ∈ lw_all := lw_in (lw_s6 (List.mem_of_getElem? (i := 37) (by decide +kernel))) (by decide +kernel)
theorem kw_1307 : (Jvm.Cond.constantLong "java/lang/Double" (137 : Nat) (9221120237041090560 : Int64)) ∈ lw_all := lw_in (lw_s6 (List.mem_of_getElem? (i := 38) (by decide +kernel))) (by decide +kernel)
theorem kw_1308 : (Jvm.Cond.constantLong "FareLimitsModel" (120 : Nat) (-9223372036854775808 : Int64)) ∈ lw_all := lw_in (lw_s6 (List.mem_of_getElem? (i := 39) (by decide +kernel))) (by decide +kernel)
theorem kw_1309 : (Jvm.Cond.methodLink "FareLimitsLaw" (45 : Nat) ({ cls := "FareLimitsModel", name := "net", desc := "(II)J" } : Jvm.MethodName)) ∈ lw_all := lw_in (lw_s6 (List.mem_of_getElem? (i := 40) (by decide +kernel))) (by decide +kernel)
theorem kw_1310 : (Jvm.Cond.instanceMethod ({ cls := "FareLimitsModel", name := "net", desc := "(II)J" } : Jvm.MethodName)) ∈ lw_all := lw_in (lw_s6 (List.mem_of_getElem? (i := 41) (by decide +kernel))) (by decide +kernel)
theorem kw_1311 : (Jvm.Cond.selects "FareLimitsModel" ({ cls := "FareLimitsModel", name := "net", desc := "(II)J" } : Jvm.MethodName) ({ cls := "FareLimitsModel", name := "net", desc := "(II)J" } : Jvm.MethodName)) ∈ lw_all := lw_in (lw_s6 (List.mem_of_getElem? (i := 42) (by decide +kernel))) (by decide +kernel)
theorem kw_1312 : (Jvm.Cond.code ({ cls := "FareLimitsModel", name := "net", desc := "(II)J" } : Jvm.MethodName) prog_14_method_17_code (3 : Nat) (Option.some Jvm.ClassFile.FieldType.long)) ∈ lw_all := lw_in (lw_s6 (List.mem_of_getElem? (i := 43) (by decide +kernel))) (by decide +kernel)
theorem kw_1313 : (Jvm.Cond.methodLink "FareLimitsModel" (122 : Nat) ({ cls := "FareLimitsModel", name := "netOf", desc := "(II)D" } : Jvm.MethodName)) ∈ lw_all := lw_in (lw_s6 (List.mem_of_getElem? (i := 44) (by decide +kernel))) (by decide +kernel)
theorem kw_1315 : (Jvm.Cond.instanceMethod ({ cls := "FareLimitsModel", name := "netOf", desc := "(II)D" } : Jvm.MethodName)) ∈ lw_all := lw_in (lw_s6 (List.mem_of_getElem? (i := 46) (by decide +kernel))) (by decide +kernel)
theorem kw_1316 : (Jvm.Cond.code ({ cls := "FareLimitsModel", name := "netOf", desc := "(II)D" } : Jvm.MethodName) prog_14_method_15_code (5 : Nat) (Option.some Jvm.ClassFile.FieldType.double)) ∈ lw_all := lw_in (lw_s6 (List.mem_of_getElem? (i := 47) (by decide +kernel))) (by decide +kernel)
theorem kw_1317 : (Jvm.Cond.methodLink "FareLimitsModel" (108 : Nat) ({ cls := "FareLimitsModel", name := "keeps", desc := "(I)D" } : Jvm.MethodName)) ∈ lw_all := lw_in (lw_s6 (List.mem_of_getElem? (i := 48) (by decide +kernel))) (by decide +kernel)
theorem kw_1318 : (Jvm.Cond.static ({ cls := "FareLimitsModel", name := "keeps", desc := "(I)D" } : Jvm.MethodName)) ∈ lw_all := lw_in (lw_s6 (List.mem_of_getElem? (i := 49) (by decide +kernel))) (by decide +kernel)
theorem kw_1319 : (Jvm.Cond.code ({ cls := "FareLimitsModel", name := "keeps", desc := "(I)D" } : Jvm.MethodName) prog_14_method_14_code (1 : Nat) (Option.some Jvm.ClassFile.FieldType.double)) ∈ lw_all := lw_in (lw_s6 (List.mem_of_getElem? (i := 50) (by decide +kernel))) (by decide +kernel)
theorem kw_1320 : (Jvm.Cond.constantDouble "FareLimitsModel" (100 : Nat) (4602678819172646912 : UInt64)) ∈ lw_all := lw_in (lw_s6 (List.mem_of_getElem? (i := 51) (by decide +kernel))) (by decide +kernel)
theorem kw_1321 : (Jvm.Cond.constantDouble "FareLimitsModel" (102 : Nat) (4604930618986332160 : UInt64)) ∈ lw_all := lw_in (lw_s6 (List.mem_of_getElem? (i := 52) (by decide +kernel))) (by decide +kernel)
theorem kw_1322 : (Jvm.Cond.methodLink "FareLimitsLaw" (49 : Nat) ({ cls := "FareLimitsModel", name := "netCut", desc := "(II)I" } : Jvm.MethodName)) ∈ lw_all := lw_in (lw_s6 (List.mem_of_getElem? (i := 53) (by decide +kernel))) (by decide +kernel)
theorem kw_1323 : (Jvm.Cond.instanceMethod ({ cls := "FareLimitsModel", name := "netCut", desc := "(II)I" } : Jvm.MethodName)) ∈ lw_all := lw_in (lw_s6 (List.mem_of_getElem? (i := 54) (by decide +kernel))) (by decide +kernel)
theorem kw_1324 : (Jvm.Cond.selects "FareLimitsModel" ({ cls := "FareLimitsModel", name := "netCut", desc := "(II)I" } : Jvm.MethodName) ({ cls := "FareLimitsModel", name := "netCut", desc := "(II)I" } : Jvm.MethodName)) ∈ lw_all := lw_in (lw_s6 (List.mem_of_getElem? (i := 55) (by decide +kernel))) (by decide +kernel)
theorem kw_1325 : (Jvm.Cond.code ({ cls := "FareLimitsModel", name := "netCut", desc := "(II)I" } : Jvm.MethodName) prog_14_method_18_code (3 : Nat) (Option.some Jvm.ClassFile.FieldType.int)) ∈ lw_all := lw_in (lw_s6 (List.mem_of_getElem? (i := 56) (by decide +kernel))) (by decide +kernel)
theorem kw_1326 : (Jvm.Cond.methodLink "FareLimitsLaw" (53 : Nat) ({ cls := "FareLimitsModel", name := "worth", desc := "(II)J" } : Jvm.MethodName)) ∈ lw_all := lw_in (lw_s6 (List.mem_of_getElem? (i := 57) (by decide +kernel))) (by decide +kernel)
theorem kw_1327 : (Jvm.Cond.instanceMethod ({ cls := "FareLimitsModel", name := "worth", desc := "(II)J" } : Jvm.MethodName)) ∈ lw_all := lw_in (lw_s6 (List.mem_of_getElem? (i := 58) (by decide +kernel))) (by decide +kernel)
theorem kw_1328 : (Jvm.Cond.selects "FareLimitsModel" ({ cls := "FareLimitsModel", name := "worth", desc := "(II)J" } : Jvm.MethodName) ({ cls := "FareLimitsModel", name := "worth", desc := "(II)J" } : Jvm.MethodName)) ∈ lw_all := lw_in (lw_s6 (List.mem_of_getElem? (i := 59) (by decide +kernel))) (by decide +kernel)
theorem kw_1329 : (Jvm.Cond.code ({ cls := "FareLimitsModel", name := "worth", desc := "(II)J" } : Jvm.MethodName) prog_14_method_22_code (3 : Nat) (Option.some Jvm.ClassFile.FieldType.long)) ∈ lw_all := lw_in (lw_s6 (List.mem_of_getElem? (i := 60) (by decide +kernel))) (by decide +kernel)
theorem kw_1330 : (Jvm.Cond.methodLink "FareLimitsModel" (137 : Nat) ({ cls := "FareLimitsModel", name := "isSeat", desc := "(I)Z" } : Jvm.MethodName)) ∈ lw_all := lw_in (lw_s6 (List.mem_of_getElem? (i := 61) (by decide +kernel))) (by decide +kernel)
theorem kw_1332 : (Jvm.Cond.instanceMethod ({ cls := "FareLimitsModel", name := "isSeat", desc := "(I)Z" } : Jvm.MethodName)) ∈ lw_all := lw_in (lw_s6 (List.mem_of_getElem? (i := 63) (by decide +kernel))) (by decide +kernel)
theorem kw_1333 : (Jvm.Cond.code ({ cls := "FareLimitsModel", name := "isSeat", desc := "(I)Z" } : Jvm.MethodName) prog_14_method_5_code (2 : Nat) (Option.some Jvm.ClassFile.FieldType.boolean)) ∈ lw_all := lw_in (lw_s6 (List.mem_of_getElem? (i := 64) (by decide +kernel))) (by decide +kernel)
theorem kw_1334 : (Jvm.Cond.methodLink "FareLimitsModel" (140 : Nat) ({ cls := "FareLimitsModel", name := "reckons", desc := "(I)V" } : Jvm.MethodName)) ∈ lw_all := lw_in (lw_s6 (List.mem_of_getElem? (i := 65) (by decide +kernel))) (by decide +kernel)
theorem kw_1336 : (Jvm.Cond.instanceMethod ({ cls := "FareLimitsModel", name := "reckons", desc := "(I)V" } : Jvm.MethodName)) ∈ lw_all := lw_in (lw_s6 (List.mem_of_getElem? (i := 67) (by decide +kernel))) (by decide +kernel)
theorem kw_1337 : (Jvm.Cond.code ({ cls := "FareLimitsModel", name := "reckons", desc := "(I)V" } : Jvm.MethodName) prog_14_method_21_code (9 : Nat) (Option.none : Option Jvm.ClassFile.FieldType)) ∈ lw_all := lw_in (lw_s6 (List.mem_of_getElem? (i := 68) (by decide +kernel))) (by decide +kernel)
theorem kw_1338 : (Jvm.Cond.methodLink "FareLimitsModel" (126 : Nat) ({ cls := "FareLimitsModel", name := "worthOf", desc := "(II)D" } : Jvm.MethodName)) ∈ lw_all := lw_in (lw_s6 (List.mem_of_getElem? (i := 69) (by decide +kernel))) (by decide +kernel)
theorem kw_1340 : (Jvm.Cond.instanceMethod ({ cls := "FareLimitsModel", name := "worthOf", desc := "(II)D" } : Jvm.MethodName)) ∈ lw_all := lw_in (lw_s6 (List.mem_of_getElem? (i := 71) (by decide +kernel))) (by decide +kernel)
theorem kw_1341 : (Jvm.Cond.code ({ cls := "FareLimitsModel", name := "worthOf", desc := "(II)D" } : Jvm.MethodName) prog_14_method_19_code (3 : Nat) (Option.some Jvm.ClassFile.FieldType.double)) ∈ lw_all := lw_in (lw_s6 (List.mem_of_getElem? (i := 72) (by decide +kernel))) (by decide +kernel)
theorem kw_1342 : (Jvm.Cond.methodLink "FareLimitsModel" (129 : Nat) ({ cls := "FareLimitsModel", name := "gain", desc := "(III)D" } : Jvm.MethodName)) ∈ lw_all := lw_in (lw_s6 (List.mem_of_getElem? (i := 73) (by decide +kernel))) (by decide +kernel)
theorem kw_1344 : (Jvm.Cond.instanceMethod ({ cls := "FareLimitsModel", name := "gain", desc := "(III)D" } : Jvm.MethodName)) ∈ lw_all := lw_in (lw_s6 (List.mem_of_getElem? (i := 75) (by decide +kernel))) (by decide +kernel)
theorem kw_1345 : (Jvm.Cond.code ({ cls := "FareLimitsModel", name := "gain", desc := "(III)D" } : Jvm.MethodName) prog_14_method_20_code (6 : Nat) (Option.some Jvm.ClassFile.FieldType.double)) ∈ lw_all := lw_in (lw_s6 (List.mem_of_getElem? (i := 76) (by decide +kernel))) (by decide +kernel)
theorem kw_1346 : (Jvm.Cond.methodLink "FareLimitsModel" (133 : Nat) ({ cls := "FareLimitsModel", name := "odds", desc := "(II)I" } : Jvm.MethodName)) ∈ lw_all := lw_in (lw_s6 (List.mem_of_getElem? (i := 77) (by decide +kernel))) (by decide +kernel)
theorem kw_1348 : (Jvm.Cond.instanceMethod ({ cls := "FareLimitsModel", name := "odds", desc := "(II)I" } : Jvm.MethodName)) ∈ lw_all := lw_in (lw_s6 (List.mem_of_getElem? (i := 79) (by decide +kernel))) (by decide +kernel)
theorem kw_1349 : (Jvm.Cond.code ({ cls := "FareLimitsModel", name := "odds", desc := "(II)I" } : Jvm.MethodName) prog_14_method_7_code (3 : Nat) (Option.some Jvm.ClassFile.FieldType.int)) ∈ lw_all := lw_in (lw_s6 (List.mem_of_getElem? (i := 80) (by decide +kernel))) (by decide +kernel)
theorem kw_1350 : (Jvm.Cond.methodLink "FareLimitsLaw" (57 : Nat) ({ cls := "FareLimitsModel", name := "worthShort", desc := "(II)I" } : Jvm.MethodName)) ∈ lw_all := lw_in (lw_s6 (List.mem_of_getElem? (i := 81) (by decide +kernel))) (by decide +kernel)
theorem kw_1351 : (Jvm.Cond.instanceMethod ({ cls := "FareLimitsModel", name := "worthShort", desc := "(II)I" } : Jvm.MethodName)) ∈ lw_all := lw_in (lw_s6 (List.mem_of_getElem? (i := 82) (by decide +kernel))) (by decide +kernel)
theorem kw_1352 : (Jvm.Cond.selects "FareLimitsModel" ({ cls := "FareLimitsModel", name := "worthShort", desc := "(II)I" } : Jvm.MethodName) ({ cls := "FareLimitsModel", name := "worthShort", desc := "(II)I" } : Jvm.MethodName)) ∈ lw_all := lw_in (lw_s6 (List.mem_of_getElem? (i := 83) (by decide +kernel))) (by decide +kernel)
theorem kw_1353 : (Jvm.Cond.code ({ cls := "FareLimitsModel", name := "worthShort", desc := "(II)I" } : Jvm.MethodName) prog_14_method_23_code (3 : Nat) (Option.some Jvm.ClassFile.FieldType.int)) ∈ lw_all := lw_in (lw_s6 (List.mem_of_getElem? (i := 84) (by decide +kernel))) (by decide +kernel)
theorem kw_1354 : (Jvm.Cond.methodLink "FareLimitsModel" (144 : Nat) ({ cls := "java/lang/Float", name := "floatToIntBits", desc := "(F)I" } : Jvm.MethodName)) ∈ lw_all := lw_in (lw_s6 (List.mem_of_getElem? (i := 85) (by decide +kernel))) (by decide +kernel)
theorem kw_1355 : (Jvm.Cond.static ({ cls := "java/lang/Float", name := "floatToIntBits", desc := "(F)I" } : Jvm.MethodName)) ∈ lw_all := lw_in (lw_s6 (List.mem_of_getElem? (i := 86) (by decide +kernel))) (by decide +kernel)
theorem kw_1356 : (Jvm.Cond.code ({ cls := "java/lang/Float", name := "floatToIntBits", desc := "(F)I" } : Jvm.MethodName) prog_19_method_24_code (1 : Nat) (Option.some Jvm.ClassFile.FieldType.int)) ∈ lw_all := lw_in (lw_s6 (List.mem_of_getElem? (i := 87) (by decide +kernel))) (by decide +kernel)
theorem kw_1357 : (Jvm.Cond.methodLink "java/lang/Float" (59 : Nat) ({ cls := "java/lang/Float", name := "isNaN", desc := "(F)Z" } : Jvm.MethodName)) ∈ lw_all := lw_in (lw_s6 (List.mem_of_getElem? (i := 88) (by decide +kernel))) (by decide +kernel)
theorem kw_1358 : (Jvm.Cond.static ({ cls := "java/lang/Float", name := "isNaN", desc := "(F)Z" } : Jvm.MethodName)) ∈ lw_all := lw_in (lw_s6 (List.mem_of_getElem? (i := 89) (by decide +kernel))) (by decide +kernel)
theorem kw_1359 : (Jvm.Cond.code ({ cls := "java/lang/Float", name := "isNaN", desc := "(F)Z" } : Jvm.MethodName) prog_19_method_6_code (1 : Nat) (Option.some Jvm.ClassFile.FieldType.boolean)) ∈ lw_all := lw_in (lw_s6 (List.mem_of_getElem? (i := 90) (by decide +kernel))) (by decide +kernel)
theorem kw_1360 : (Jvm.Cond.methodLink "java/lang/Float" (74 : Nat) ({ cls := "java/lang/Float", name := "floatToRawIntBits", desc := "(F)I" } : Jvm.MethodName)) ∈ lw_all := lw_in (lw_s6 (List.mem_of_getElem? (i := 91) (by decide +kernel))) (by decide +kernel)
theorem kw_1361 : (Jvm.Cond.static ({ cls := "java/lang/Float", name := "floatToRawIntBits", desc := "(F)I" } : Jvm.MethodName)) ∈ lw_all := lw_in (lw_s6 (List.mem_of_getElem? (i := 92) (by decide +kernel))) (by decide +kernel)
theorem kw_1362 : (Jvm.Cond.native ({ cls := "java/lang/Float", name := "floatToRawIntBits", desc := "(F)I" } : Jvm.MethodName)) ∈ lw_all := lw_in (lw_s6 (List.mem_of_getElem? (i := 93) (by decide +kernel))) (by decide +kernel)
theorem kw_1363 : (Jvm.Cond.constant "java/lang/Float" (77 : Nat) (2143289344 : Int32)) ∈ lw_all := lw_in (lw_s6 (List.mem_of_getElem? (i := 94) (by decide +kernel))) (by decide +kernel)
theorem kw_1364 : (Jvm.Cond.methodLink "FareLimitsLaw" (61 : Nat) ({ cls := "FareLimitsModel", name := "gross", desc := "(II)J" } : Jvm.MethodName)) ∈ lw_all := lw_in (lw_s6 (List.mem_of_getElem? (i := 95) (by decide +kernel))) (by decide +kernel)
theorem kw_1365 : (Jvm.Cond.instanceMethod ({ cls := "FareLimitsModel", name := "gross", desc := "(II)J" } : Jvm.MethodName)) ∈ lw_all := lw_in (lw_s6 (List.mem_of_getElem? (i := 96) (by decide +kernel))) (by decide +kernel)
theorem kw_1366 : (Jvm.Cond.selects "FareLimitsModel" ({ cls := "FareLimitsModel", name := "gross", desc := "(II)J" } : Jvm.MethodName) ({ cls := "FareLimitsModel", name := "gross", desc := "(II)J" } : Jvm.MethodName)) ∈ lw_all := lw_in (lw_s6 (List.mem_of_getElem? (i := 97) (by decide +kernel))) (by decide +kernel)
theorem kw_1367 : (Jvm.Cond.code ({ cls := "FareLimitsModel", name := "gross", desc := "(II)J" } : Jvm.MethodName) prog_14_method_28_code (5 : Nat) (Option.some Jvm.ClassFile.FieldType.long)) ∈ lw_all := lw_in (lw_s6 (List.mem_of_getElem? (i := 98) (by decide +kernel))) (by decide +kernel)
theorem kw_1368 : (Jvm.Cond.methodLink "FareLimitsModel" (167 : Nat) ({ cls := "FareLimitsModel", name := "next", desc := "(II)J" } : Jvm.MethodName)) ∈ lw_all := lw_in (lw_s6 (List.mem_of_getElem? (i := 99) (by decide +kernel))) (by decide +kernel)
theorem kw_1370 : (Jvm.Cond.instanceMethod ({ cls := "FareLimitsModel", name := "next", desc := "(II)J" } : Jvm.MethodName)) ∈ lw_all := lw_in (lw_s6 (List.mem_of_getElem? (i := 101) (by decide +kernel))) (by decide +kernel)
theorem kw_1371 : (Jvm.Cond.code ({ cls := "FareLimitsModel", name := "next", desc := "(II)J" } : Jvm.MethodName) prog_14_method_27_code (8 : Nat) (Option.some Jvm.ClassFile.FieldType.long)) ∈ lw_all := lw_in (lw_s6 (List.mem_of_getElem? (i := 102) (by decide +kernel))) (by decide +kernel)
theorem kw_1372 : (Jvm.Cond.methodLink "FareLimitsModel" (156 : Nat) ({ cls := "FareLimitsModel", name := "times", desc := "(JJ)J" } : Jvm.MethodName)) ∈ lw_all := lw_in (lw_s6 (List.mem_of_getElem? (i := 103) (by decide +kernel))) (by decide +kernel)
theorem kw_1374 : (Jvm.Cond.instanceMethod ({ cls := "FareLimitsModel", name := "times", desc := "(JJ)J" } : Jvm.MethodName)) ∈ lw_all := lw_in (lw_s6 (List.mem_of_getElem? (i := 105) (by decide +kernel))) (by decide +kernel)
theorem kw_1375 : (Jvm.Cond.code ({ cls := "FareLimitsModel", name := "times", desc := "(JJ)J" } : Jvm.MethodName) prog_14_method_24_code (5 : Nat) (Option.some Jvm.ClassFile.FieldType.long)) ∈ lw_all := lw_in (lw_s6 (List.mem_of_getElem? (i := 106) (by decide +kernel))) (by decide +kernel)
theorem kw_1376 : (Jvm.Cond.constantLong "FareLimitsModel" (150 : Nat) (9223372036854775807 : Int64)) ∈ lw_all := lw_in (lw_s6 (List.mem_of_getElem? (i := 107) (by decide +kernel))) (by decide +kernel)
theorem kw_1377 : (Jvm.Cond.methodLink "FareLimitsModel" (160 : Nat) ({ cls := "FareLimitsModel", name := "power", desc := "(II)J" } : Jvm.MethodName)) ∈ lw_all := lw_in (lw_s6 (List.mem_of_getElem? (i := 108) (by decide +kernel))) (by decide +kernel)
theorem kw_1379 : (Jvm.Cond.instanceMethod ({ cls := "FareLimitsModel", name := "power", desc := "(II)J" } : Jvm.MethodName)) ∈ lw_all := lw_in (lw_s6 (List.mem_of_getElem? (i := 110) (by decide +kernel))) (by decide +kernel)
theorem kw_1380 : (Jvm.Cond.code ({ cls := "FareLimitsModel", name := "power", desc := "(II)J" } : Jvm.MethodName) prog_14_method_26_code (6 : Nat) (Option.some Jvm.ClassFile.FieldType.long)) ∈ lw_all := lw_in (lw_s6 (List.mem_of_getElem? (i := 111) (by decide +kernel))) (by decide +kernel)
theorem kw_1381 : (Jvm.Cond.methodLink "FareLimitsModel" (164 : Nat) ({ cls := "FareLimitsModel", name := "plus", desc := "(JJ)J" } : Jvm.MethodName)) ∈ lw_all := lw_in (lw_s6 (List.mem_of_getElem? (i := 112) (by decide +kernel))) (by decide +kernel)
theorem kw_1383 : (Jvm.Cond.instanceMethod ({ cls := "FareLimitsModel", name := "plus", desc := "(JJ)J" } : Jvm.MethodName)) ∈ lw_all := lw_in (lw_s6 (List.mem_of_getElem? (i := 114) (by decide +kernel))) (by decide +kernel)
theorem kw_1384 : (Jvm.Cond.code ({ cls := "FareLimitsModel", name := "plus", desc := "(JJ)J" } : Jvm.MethodName) prog_14_method_25_code (5 : Nat) (Option.some Jvm.ClassFile.FieldType.long)) ∈ lw_all := lw_in (lw_s6 (List.mem_of_getElem? (i := 115) (by decide +kernel))) (by decide +kernel)
theorem kw_1385 : (Jvm.Cond.constantLong "FareLimitsModel" (170 : Nat) (-6 : Int64)) ∈ lw_all := lw_in (lw_s6 (List.mem_of_getElem? (i := 116) (by decide +kernel))) (by decide +kernel)
theorem kw_1386 : (Jvm.Cond.methodLink "FareLimitsLaw" (65 : Nat) ({ cls := "FareLimitsModel", name := "taken", desc := "(III)I" } : Jvm.MethodName)) ∈ lw_all := lw_in (lw_s6 (List.mem_of_getElem? (i := 117) (by decide +kernel))) (by decide +kernel)
theorem kw_1387 : (Jvm.Cond.instanceMethod ({ cls := "FareLimitsModel", name := "taken", desc := "(III)I" } : Jvm.MethodName)) ∈ lw_all := lw_in (lw_s6 (List.mem_of_getElem? (i := 118) (by decide +kernel))) (by decide +kernel)
theorem kw_1388 : (Jvm.Cond.selects "FareLimitsModel" ({ cls := "FareLimitsModel", name := "taken", desc := "(III)I" } : Jvm.MethodName) ({ cls := "FareLimitsModel", name := "taken", desc := "(III)I" } : Jvm.MethodName)) ∈ lw_all := lw_in (lw_s6 (List.mem_of_getElem? (i := 119) (by decide +kernel))) (by decide +kernel)
theorem kw_1389 : (Jvm.Cond.code ({ cls := "FareLimitsModel", name := "taken", desc := "(III)I" } : Jvm.MethodName) prog_14_method_31_code (4 : Nat) (Option.some Jvm.ClassFile.FieldType.int)) ∈ lw_all := lw_in (lw_s6 (List.mem_of_getElem? (i := 120) (by decide +kernel))) (by decide +kernel)
theorem kw_1390 : (Jvm.Cond.methodLink "FareLimitsModel" (172 : Nat) ({ cls := "FareLimitsModel", name := "isToGo", desc := "(I)Z" } : Jvm.MethodName)) ∈ lw_all := lw_in (lw_s6 (List.mem_of_getElem? (i := 121) (by decide +kernel))) (by decide +kernel)
theorem kw_1391 : (Jvm.Cond.static ({ cls := "FareLimitsModel", name := "isToGo", desc := "(I)Z" } : Jvm.MethodName)) ∈ lw_all := lw_in (lw_s6 (List.mem_of_getElem? (i := 122) (by decide +kernel))) (by decide +kernel)
theorem kw_1392 : (Jvm.Cond.code ({ cls := "FareLimitsModel", name := "isToGo", desc := "(I)Z" } : Jvm.MethodName) prog_14_method_30_code (1 : Nat) (Option.some Jvm.ClassFile.FieldType.boolean)) ∈ lw_all := lw_in (lw_s6 (List.mem_of_getElem? (i := 123) (by decide +kernel))) (by decide +kernel)
theorem kw_1393 : (Jvm.Cond.methodLink "FareLimitsModel" (175 : Nat) ({ cls := "FareLimitsModel", name := "isTaken", desc := "(III)Z" } : Jvm.MethodName)) ∈ lw_all := lw_in (lw_s6 (List.mem_of_getElem? (i := 124) (by decide +kernel))) (by decide +kernel)
theorem kw_1395 : (Jvm.Cond.instanceMethod ({ cls := "FareLimitsModel", name := "isTaken", desc := "(III)Z" } : Jvm.MethodName)) ∈ lw_all := lw_in (lw_s6 (List.mem_of_getElem? (i := 126) (by decide +kernel))) (by decide +kernel)
theorem kw_1396 : (Jvm.Cond.code ({ cls := "FareLimitsModel", name := "isTaken", desc := "(III)Z" } : Jvm.MethodName) prog_14_method_29_code (4 : Nat) (Option.some Jvm.ClassFile.FieldType.boolean)) ∈ lw_all := lw_in (lw_s6 (List.mem_of_getElem? (i := 127) (by decide +kernel))) (by decide +kernel)
theorem kw_1397 : (Jvm.Cond.methodLink "FareLimitsLaw" (69 : Nat) ({ cls := "FareLimitsModel", name := "kept", desc := "(II)I" } : Jvm.MethodName)) ∈ lw_all := lw_in (lw_s6 (List.mem_of_getElem? (i := 128) (by decide +kernel))) (by decide +kernel)
theorem kw_1398 : (Jvm.Cond.instanceMethod ({ cls := "FareLimitsModel", name := "kept", desc := "(II)I" } : Jvm.MethodName)) ∈ lw_all := lw_in (lw_s6 (List.mem_of_getElem? (i := 129) (by decide +kernel))) (by decide +kernel)
theorem kw_1399 : (Jvm.Cond.selects "FareLimitsModel" ({ cls := "FareLimitsModel", name := "kept", desc := "(II)I" } : Jvm.MethodName) ({ cls := "FareLimitsModel", name := "kept", desc := "(II)I" } : Jvm.MethodName)) ∈ lw_all := lw_in (lw_s6 (List.mem_of_getElem? (i := 130) (by decide +kernel))) (by decide +kernel)
theorem kw_1400 : (Jvm.Cond.code ({ cls := "FareLimitsModel", name := "kept", desc := "(II)I" } : Jvm.MethodName) prog_14_method_32_code (5 : Nat) (Option.some Jvm.ClassFile.FieldType.int)) ∈ lw_all := lw_in (lw_s6 (List.mem_of_getElem? (i := 131) (by decide +kernel))) (by decide +kernel)
theorem kw_1401 : (Jvm.Cond.methodLink "FareLimitsLaw" (73 : Nat) ({ cls := "FareLimitsModel", name := "limit", desc := "(II)I" } : Jvm.MethodName)) ∈ lw_all := lw_in (lw_s6 (List.mem_of_getElem? (i := 132) (by decide +kernel))) (by decide +kernel)
theorem kw_1402 : (Jvm.Cond.instanceMethod ({ cls := "FareLimitsModel", name := "limit", desc := "(II)I" } : Jvm.MethodName)) ∈ lw_all := lw_in (lw_s6 (List.mem_of_getElem? (i := 133) (by decide +kernel))) (by decide +kernel)
theorem kw_1403 : (Jvm.Cond.selects "FareLimitsModel" ({ cls := "FareLimitsModel", name := "limit", desc := "(II)I" } : Jvm.MethodName) ({ cls := "FareLimitsModel", name := "limit", desc := "(II)I" } : Jvm.MethodName)) ∈ lw_all := lw_in (lw_s6 (List.mem_of_getElem? (i := 134) (by decide +kernel))) (by decide +kernel)
theorem kw_1404 : (Jvm.Cond.code ({ cls := "FareLimitsModel", name := "limit", desc := "(II)I" } : Jvm.MethodName) prog_14_method_33_code (4 : Nat) (Option.some Jvm.ClassFile.FieldType.int)) ∈ lw_all := lw_in (lw_s6 (List.mem_of_getElem? (i := 135) (by decide +kernel))) (by decide +kernel)
theorem kw_1405 : (Jvm.Cond.methodLink "FareLimitsModel" (179 : Nat) ({ cls := "FareLimitsModel", name := "kept", desc := "(II)I" } : Jvm.MethodName)) ∈ lw_all := lw_in (lw_s6 (List.mem_of_getElem? (i := 136) (by decide +kernel))) (by decide +kernel)
theorem kw_1406 : (Jvm.Cond.methodLink "FareLimitsLaw" (78 : Nat) ({ cls := "FareLimitsModel", name := "chance", desc := "(III)J" } : Jvm.MethodName)) ∈ lw_all := lw_in (lw_s6 (List.mem_of_getElem? (i := 137) (by decide +kernel))) (by decide +kernel)
theorem kw_1407 : (Jvm.Cond.instanceMethod ({ cls := "FareLimitsModel", name := "chance", desc := "(III)J" } : Jvm.MethodName)) ∈ lw_all := lw_in (lw_s6 (List.mem_of_getElem? (i := 138) (by decide +kernel))) (by decide +kernel)
theorem kw_1408 : (Jvm.Cond.selects "FareLimitsModel" ({ cls := "FareLimitsModel", name := "chance", desc := "(III)J" } : Jvm.MethodName) ({ cls := "FareLimitsModel", name := "chance", desc := "(III)J" } : Jvm.MethodName)) ∈ lw_all := lw_in (lw_s6 (List.mem_of_getElem? (i := 139) (by decide +kernel))) (by decide +kernel)
theorem kw_1409 : (Jvm.Cond.code ({ cls := "FareLimitsModel", name := "chance", desc := "(III)J" } : Jvm.MethodName) prog_14_method_36_code (4 : Nat) (Option.some Jvm.ClassFile.FieldType.long)) ∈ lw_all := lw_in (lw_s6 (List.mem_of_getElem? (i := 140) (by decide +kernel))) (by decide +kernel)
theorem kw_1410 : (Jvm.Cond.methodLink "FareLimitsModel" (183 : Nat) ({ cls := "FareLimitsModel", name := "isBooked", desc := "(I)Z" } : Jvm.MethodName)) ∈ lw_all := lw_in (lw_s6 (List.mem_of_getElem? (i := 141) (by decide +kernel))) (by decide +kernel)
theorem kw_1411 : (Jvm.Cond.static ({ cls := "FareLimitsModel", name := "isBooked", desc := "(I)Z" } : Jvm.MethodName)) ∈ lw_all := lw_in (lw_s6 (List.mem_of_getElem? (i := 142) (by decide +kernel))) (by decide +kernel)
theorem kw_1412 : (Jvm.Cond.code ({ cls := "FareLimitsModel", name := "isBooked", desc := "(I)Z" } : Jvm.MethodName) prog_14_method_34_code (1 : Nat) (Option.some Jvm.ClassFile.FieldType.boolean)) ∈ lw_all := lw_in (lw_s6 (List.mem_of_getElem? (i := 143) (by decide +kernel))) (by decide +kernel)
theorem kw_1413 : (Jvm.Cond.constantLong "FareLimitsModel" (181 : Nat) (40 : Int64)) ∈ lw_all := lw_in (lw_s6 (List.mem_of_getElem? (i := 144) (by decide +kernel))) (by decide +kernel)
theorem kw_1414 : (Jvm.Cond.methodLink "FareLimitsModel" (186 : Nat) ({ cls := "FareLimitsModel", name := "chances", desc := "(II)V" } : Jvm.MethodName)) ∈ lw_all := lw_in (lw_s6 (List.mem_of_getElem? (i := 145) (by decide +kernel))) (by decide +kernel)
theorem kw_1416 : (Jvm.Cond.instanceMethod ({ cls := "FareLimitsModel", name := "chances", desc := "(II)V" } : Jvm.MethodName)) ∈ lw_all := lw_in (lw_s6 (List.mem_of_getElem? (i := 147) (by decide +kernel))) (by decide +kernel)
theorem kw_1417 : (Jvm.Cond.code ({ cls := "FareLimitsModel", name := "chances", desc := "(II)V" } : Jvm.MethodName) prog_14_method_35_code (7 : Nat) (Option.none : Option Jvm.ClassFile.FieldType)) ∈ lw_all := lw_in (lw_s6 (List.mem_of_getElem? (i := 148) (by decide +kernel))) (by decide +kernel)
theorem kw_1418 : (Jvm.Cond.methodLink "FareLimitsLaw" (82 : Nat) ({ cls := "FareLimitsModel", name := "turned", desc := "(II)J" } : Jvm.MethodName)) ∈ lw_all := lw_in (lw_s6 (List.mem_of_getElem? (i := 149) (by decide +kernel))) (by decide +kernel)
theorem kw_1419 : (Jvm.Cond.instanceMethod ({ cls := "FareLimitsModel", name := "turned", desc := "(II)J" } : Jvm.MethodName)) ∈ lw_all := lw_in (lw_s6 (List.mem_of_getElem? (i := 150) (by decide +kernel))) (by decide +kernel)
theorem kw_1420 : (Jvm.Cond.selects "FareLimitsModel" ({ cls := "FareLimitsModel", name := "turned", desc := "(II)J" } : Jvm.MethodName) ({ cls := "FareLimitsModel", name := "turned", desc := "(II)J" } : Jvm.MethodName)) ∈ lw_all := lw_in (lw_s6 (List.mem_of_getElem? (i := 151) (by decide +kernel))) (by decide +kernel)
theorem kw_1421 : (Jvm.Cond.code ({ cls := "FareLimitsModel", name := "turned", desc := "(II)J" } : Jvm.MethodName) prog_14_method_39_code (3 : Nat) (Option.some Jvm.ClassFile.FieldType.long)) ∈ lw_all := lw_in (lw_s6 (List.mem_of_getElem? (i := 152) (by decide +kernel))) (by decide +kernel)
theorem kw_1422 : (Jvm.Cond.methodLink "FareLimitsModel" (189 : Nat) ({ cls := "FareLimitsModel", name := "turnedOf", desc := "(I)D" } : Jvm.MethodName)) ∈ lw_all := lw_in (lw_s6 (List.mem_of_getElem? (i := 153) (by decide +kernel))) (by decide +kernel)
theorem kw_1424 : (Jvm.Cond.instanceMethod ({ cls := "FareLimitsModel", name := "turnedOf", desc := "(I)D" } : Jvm.MethodName)) ∈ lw_all := lw_in (lw_s6 (List.mem_of_getElem? (i := 155) (by decide +kernel))) (by decide +kernel)
theorem kw_1425 : (Jvm.Cond.code ({ cls := "FareLimitsModel", name := "turnedOf", desc := "(I)D" } : Jvm.MethodName) prog_14_method_37_code (5 : Nat) (Option.some Jvm.ClassFile.FieldType.double)) ∈ lw_all := lw_in (lw_s6 (List.mem_of_getElem? (i := 156) (by decide +kernel))) (by decide +kernel)
theorem kw_1426 : (Jvm.Cond.methodLink "FareLimitsLaw" (86 : Nat) ({ cls := "FareLimitsModel", name := "had", desc := "(III)J" } : Jvm.MethodName)) ∈ lw_all := lw_in (lw_s6 (List.mem_of_getElem? (i := 157) (by decide +kernel))) (by decide +kernel)
theorem kw_1427 : (Jvm.Cond.instanceMethod ({ cls := "FareLimitsModel", name := "had", desc := "(III)J" } : Jvm.MethodName)) ∈ lw_all := lw_in (lw_s6 (List.mem_of_getElem? (i := 158) (by decide +kernel))) (by decide +kernel)
theorem kw_1428 : (Jvm.Cond.selects "FareLimitsModel" ({ cls := "FareLimitsModel", name := "had", desc := "(III)J" } : Jvm.MethodName) ({ cls := "FareLimitsModel", name := "had", desc := "(III)J" } : Jvm.MethodName)) ∈ lw_all := lw_in (lw_s6 (List.mem_of_getElem? (i := 159) (by decide +kernel))) (by decide +kernel)
theorem kw_1429 : (Jvm.Cond.code ({ cls := "FareLimitsModel", name := "had", desc := "(III)J" } : Jvm.MethodName) prog_14_method_40_code (4 : Nat) (Option.some Jvm.ClassFile.FieldType.long)) ∈ lw_all := lw_in (lw_s6 (List.mem_of_getElem? (i := 160) (by decide +kernel))) (by decide +kernel)
theorem kw_1430 : (Jvm.Cond.methodLink "FareLimitsModel" (192 : Nat) ({ cls := "FareLimitsModel", name := "hadOf", desc := "(II)D" } : Jvm.MethodName)) ∈ lw_all := lw_in (lw_s6 (List.mem_of_getElem? (i := 161) (by decide +kernel))) (by decide +kernel)
theorem kw_1432 : (Jvm.Cond.instanceMethod ({ cls := "FareLimitsModel", name := "hadOf", desc := "(II)D" } : Jvm.MethodName)) ∈ lw_all := lw_in (lw_s6 (List.mem_of_getElem? (i := 163) (by decide +kernel))) (by decide +kernel)
theorem kw_1433 : (Jvm.Cond.code ({ cls := "FareLimitsModel", name := "hadOf", desc := "(II)D" } : Jvm.MethodName) prog_14_method_38_code (6 : Nat) (Option.some Jvm.ClassFile.FieldType.double)) ∈ lw_all := lw_in (lw_s6 (List.mem_of_getElem? (i := 164) (by decide +kernel))) (by decide +kernel)
theorem kw_1434 : (Jvm.Cond.methodLink "FareLimitsLaw" (90 : Nat) ({ cls := "FareLimitsModel", name := "booked", desc := "(II)I" } : Jvm.MethodName)) ∈ lw_all := lw_in (lw_s6 (List.mem_of_getElem? (i := 165) (by decide +kernel))) (by decide +kernel)
theorem kw_1435 : (Jvm.Cond.instanceMethod ({ cls := "FareLimitsModel", name := "booked", desc := "(II)I" } : Jvm.MethodName)) ∈ lw_all := lw_in (lw_s6 (List.mem_of_getElem? (i := 166) (by decide +kernel))) (by decide +kernel)
theorem kw_1436 : (Jvm.Cond.selects "FareLimitsModel" ({ cls := "FareLimitsModel", name := "booked", desc := "(II)I" } : Jvm.MethodName) ({ cls := "FareLimitsModel", name := "booked", desc := "(II)I" } : Jvm.MethodName)) ∈ lw_all := lw_in (lw_s6 (List.mem_of_getElem? (i := 167) (by decide +kernel))) (by decide +kernel)
theorem kw_1437 : (Jvm.Cond.code ({ cls := "FareLimitsModel", name := "booked", desc := "(II)I" } : Jvm.MethodName) prog_14_method_41_code (9 : Nat) (Option.some Jvm.ClassFile.FieldType.int)) ∈ lw_all := lw_in (lw_s6 (List.mem_of_getElem? (i := 168) (by decide +kernel))) (by decide +kernel)
theorem kw_1438 : (Jvm.Cond.methodLink "FareLimitsLaw" (94 : Nat) ({ cls := "FareLimitsModel", name := "ways", desc := "(III)J" } : Jvm.MethodName)) ∈ lw_all := lw_in (lw_s6 (List.mem_of_getElem? (i := 169) (by decide +kernel))) (by decide +kernel)
theorem kw_1439 : (Jvm.Cond.instanceMethod ({ cls := "FareLimitsModel", name := "ways", desc := "(III)J" } : Jvm.MethodName)) ∈ lw_all := lw_in (lw_s6 (List.mem_of_getElem? (i := 170) (by decide +kernel))) (by decide +kernel)
theorem kw_1440 : (Jvm.Cond.selects "FareLimitsModel" ({ cls := "FareLimitsModel", name := "ways", desc := "(III)J" } : Jvm.MethodName) ({ cls := "FareLimitsModel", name := "ways", desc := "(III)J" } : Jvm.MethodName)) ∈ lw_all := lw_in (lw_s6 (List.mem_of_getElem? (i := 171) (by decide +kernel))) (by decide +kernel)
theorem kw_1441 : (Jvm.Cond.code ({ cls := "FareLimitsModel", name := "ways", desc := "(III)J" } : Jvm.MethodName) prog_14_method_43_code (10 : Nat) (Option.some Jvm.ClassFile.FieldType.long)) ∈ lw_all := lw_in (lw_s6 (List.mem_of_getElem? (i := 172) (by decide +kernel))) (by decide +kernel)
theorem kw_1442 : (Jvm.Cond.methodLink "FareLimitsModel" (195 : Nat) ({ cls := "FareLimitsModel", name := "setsOf", desc := "(II)J" } : Jvm.MethodName)) ∈ lw_all := lw_in (lw_s6 (List.mem_of_getElem? (i := 173) (by decide +kernel))) (by decide +kernel)
theorem kw_1444 : (Jvm.Cond.instanceMethod ({ cls := "FareLimitsModel", name := "setsOf", desc := "(II)J" } : Jvm.MethodName)) ∈ lw_all := lw_in (lw_s6 (List.mem_of_getElem? (i := 175) (by decide +kernel))) (by decide +kernel)
theorem kw_1445 : (Jvm.Cond.code ({ cls := "FareLimitsModel", name := "setsOf", desc := "(II)J" } : Jvm.MethodName) prog_14_method_42_code (5 : Nat) (Option.some Jvm.ClassFile.FieldType.long)) ∈ lw_all := lw_in (lw_s6 (List.mem_of_getElem? (i := 176) (by decide +kernel))) (by decide +kernel)
theorem kw_1446 : (Jvm.Cond.methodLink "FareLimitsLaw" (147 : Nat) ({ cls := "FareLimitsModel", name := "demand", desc := "(III)J" } : Jvm.MethodName)) ∈ lw_all := lw_in (lw_s6 (List.mem_of_getElem? (i := 177) (by decide +kernel))) (by decide +kernel)
theorem kw_1447 : (Jvm.Cond.instanceMethod ({ cls := "FareLimitsModel", name := "demand", desc := "(III)J" } : Jvm.MethodName)) ∈ lw_all := lw_in (lw_s6 (List.mem_of_getElem? (i := 178) (by decide +kernel))) (by decide +kernel)
theorem kw_1448 : (Jvm.Cond.selects "FareLimitsModel" ({ cls := "FareLimitsModel", name := "demand", desc := "(III)J" } : Jvm.MethodName) ({ cls := "FareLimitsModel", name := "demand", desc := "(III)J" } : Jvm.MethodName)) ∈ lw_all := lw_in (lw_s6 (List.mem_of_getElem? (i := 179) (by decide +kernel))) (by decide +kernel)
theorem kw_1449 : (Jvm.Cond.code ({ cls := "FareLimitsModel", name := "demand", desc := "(III)J" } : Jvm.MethodName) prog_14_method_45_code (4 : Nat) (Option.some Jvm.ClassFile.FieldType.long)) ∈ lw_all := lw_in (lw_s6 (List.mem_of_getElem? (i := 180) (by decide +kernel))) (by decide +kernel)
theorem kw_1450 : (Jvm.Cond.methodLink "FareLimitsModel" (198 : Nat) ({ cls := "FareLimitsModel", name := "asks", desc := "(II)V" } : Jvm.MethodName)) ∈ lw_all := lw_in (lw_s6 (List.mem_of_getElem? (i := 181) (by decide +kernel))) (by decide +kernel)
theorem kw_1452 : (Jvm.Cond.instanceMethod ({ cls := "FareLimitsModel", name := "asks", desc := "(II)V" } : Jvm.MethodName)) ∈ lw_all := lw_in (lw_s6 (List.mem_of_getElem? (i := 183) (by decide +kernel))) (by decide +kernel)
theorem kw_1453 : (Jvm.Cond.code ({ cls := "FareLimitsModel", name := "asks", desc := "(II)V" } : Jvm.MethodName) prog_14_method_44_code (7 : Nat) (Option.none : Option Jvm.ClassFile.FieldType)) ∈ lw_all := lw_in (lw_s6 (List.mem_of_getElem? (i := 184) (by decide +kernel))) (by decide +kernel)
theorem kw_1454 : (Jvm.Cond.methodLink "FareLimitsLaw" (151 : Nat) ({ cls := "FareLimitsModel", name := "spill", desc := "(III)J" } : Jvm.MethodName)) ∈ lw_all := lw_in (lw_s6 (List.mem_of_getElem? (i := 185) (by decide +kernel))) (by decide +kernel)
theorem kw_1455 : (Jvm.Cond.instanceMethod ({ cls := "FareLimitsModel", name := "spill", desc := "(III)J" } : Jvm.MethodName)) ∈ lw_all := lw_in (lw_s6 (List.mem_of_getElem? (i := 186) (by decide +kernel))) (by decide +kernel)
theorem kw_1456 : (Jvm.Cond.selects "FareLimitsModel" ({ cls := "FareLimitsModel", name := "spill", desc := "(III)J" } : Jvm.MethodName) ({ cls := "FareLimitsModel", name := "spill", desc := "(III)J" } : Jvm.MethodName)) ∈ lw_all := lw_in (lw_s6 (List.mem_of_getElem? (i := 187) (by decide +kernel))) (by decide +kernel)
theorem kw_1457 : (Jvm.Cond.code ({ cls := "FareLimitsModel", name := "spill", desc := "(III)J" } : Jvm.MethodName) prog_14_method_46_code (7 : Nat) (Option.some Jvm.ClassFile.FieldType.long)) ∈ lw_all := lw_in (lw_s6 (List.mem_of_getElem? (i := 188) (by decide +kernel))) (by decide +kernel)
theorem kw_1458 : (Jvm.Cond.methodLink "FareLimitsLaw" (155 : Nat) ({ cls := "FareLimitsModel", name := "hand", desc := "(II)I" } : Jvm.MethodName)) ∈ lw_all := lw_in (lw_s6 (List.mem_of_getElem? (i := 189) (by decide +kernel))) (by decide +kernel)
theorem kw_1459 : (Jvm.Cond.instanceMethod ({ cls := "FareLimitsModel", name := "hand", desc := "(II)I" } : Jvm.MethodName)) ∈ lw_all := lw_in (lw_s6 (List.mem_of_getElem? (i := 190) (by decide +kernel))) (by decide +kernel)
theorem kw_1460 : (Jvm.Cond.selects "FareLimitsModel" ({ cls := "FareLimitsModel", name := "hand", desc := "(II)I" } : Jvm.MethodName) ({ cls := "FareLimitsModel", name := "hand", desc := "(II)I" } : Jvm.MethodName)) ∈ lw_all := lw_in (lw_s6 (List.mem_of_getElem? (i := 191) (by decide +kernel))) (by decide +kernel)
theorem kw_1461 : (Jvm.Cond.code ({ cls := "FareLimitsModel", name := "hand", desc := "(II)I" } : Jvm.MethodName) prog_14_method_47_code (4 : Nat) (Option.some Jvm.ClassFile.FieldType.int)) ∈ lw_all := lw_in (lw_s6 (List.mem_of_getElem? (i := 192) (by decide +kernel))) (by decide +kernel)
theorem kw_1462 : (Jvm.Cond.methodLink "FareLimitsLaw" (168 : Nat) ({ cls := "FareLimitsModel", name := "seed", desc := "(I)I" } : Jvm.MethodName)) ∈ lw_all := lw_in (lw_s6 (List.mem_of_getElem? (i := 193) (by decide +kernel))) (by decide +kernel)
theorem kw_1463 : (Jvm.Cond.instanceMethod ({ cls := "FareLimitsModel", name := "seed", desc := "(I)I" } : Jvm.MethodName)) ∈ lw_all := lw_in (lw_s6 (List.mem_of_getElem? (i := 194) (by decide +kernel))) (by decide +kernel)
theorem kw_1464 : (Jvm.Cond.selects "FareLimitsModel" ({ cls := "FareLimitsModel", name := "seed", desc := "(I)I" } : Jvm.MethodName) ({ cls := "FareLimitsModel", name := "seed", desc := "(I)I" } : Jvm.MethodName)) ∈ lw_all := lw_in (lw_s6 (List.mem_of_getElem? (i := 195) (by decide +kernel))) (by decide +kernel)
theorem kw_1465 : (Jvm.Cond.code ({ cls := "FareLimitsModel", name := "seed", desc := "(I)I" } : Jvm.MethodName) prog_14_method_48_code (3 : Nat) (Option.some Jvm.ClassFile.FieldType.int)) ∈ lw_all := lw_in (lw_s6 (List.mem_of_getElem? (i := 196) (by decide +kernel))) (by decide +kernel)
theorem kw_1466 : (Jvm.Cond.methodLink "FareLimitsLaw" (164 : Nat) ({ cls := "FareLimitsModel", name := "drawn", desc := "(IIII)I" } : Jvm.MethodName)) ∈ lw_all := lw_in (lw_s6 (List.mem_of_getElem? (i := 197) (by decide +kernel))) (by decide +kernel)
theorem kw_1467 : (Jvm.Cond.instanceMethod ({ cls := "FareLimitsModel", name := "drawn", desc := "(IIII)I" } : Jvm.MethodName)) ∈ lw_all := lw_in (lw_s6 (List.mem_of_getElem? (i := 198) (by decide +kernel))) (by decide +kernel)
theorem kw_1468 : (Jvm.Cond.selects "FareLimitsModel" ({ cls := "FareLimitsModel", name := "drawn", desc := "(IIII)I" } : Jvm.MethodName) ({ cls := "FareLimitsModel", name := "drawn", desc := "(IIII)I" } : Jvm.MethodName)) ∈ lw_all := lw_in (lw_s6 (List.mem_of_getElem? (i := 199) (by decide +kernel))) (by decide +kernel)
theorem kw_1469 : (Jvm.Cond.code ({ cls := "FareLimitsModel", name := "drawn", desc := "(IIII)I" } : Jvm.MethodName) prog_14_method_53_code (10 : Nat) (Option.some Jvm.ClassFile.FieldType.int)) ∈ lw_all := lw_in (lw_s6 (List.mem_of_getElem? (i := 200) (by decide +kernel))) (by decide +kernel)
theorem kw_1470 : (Jvm.Cond.methodLink "FareLimitsModel" (215 : Nat) ({ cls := "FareLimitsModel", name := "opens", desc := "()V" } : Jvm.MethodName)) ∈ lw_all := lw_in (lw_s6 (List.mem_of_getElem? (i := 201) (by decide +kernel))) (by decide +kernel)
theorem kw_1472 : (Jvm.Cond.instanceMethod ({ cls := "FareLimitsModel", name := "opens", desc := "()V" } : Jvm.MethodName)) ∈ lw_all := lw_in (lw_s6 (List.mem_of_getElem? (i := 203) (by decide +kernel))) (by decide +kernel)
theorem kw_1473 : (Jvm.Cond.code ({ cls := "FareLimitsModel", name := "opens", desc := "()V" } : Jvm.MethodName) prog_14_method_49_code (2 : Nat) (Option.none : Option Jvm.ClassFile.FieldType)) ∈ lw_all := lw_in (lw_s6 (List.mem_of_getElem? (i := 204) (by decide +kernel))) (by decide +kernel)
theorem kw_1474 : (Jvm.Cond.methodLink "FareLimitsModel" (218 : Nat) ({ cls := "FareLimitsModel", name := "drawnFare", desc := "(I)I" } : Jvm.MethodName)) ∈ lw_all := lw_in (lw_s6 (List.mem_of_getElem? (i := 205) (by decide +kernel))) (by decide +kernel)
theorem kw_1476 : (Jvm.Cond.instanceMethod ({ cls := "FareLimitsModel", name := "drawnFare", desc := "(I)I" } : Jvm.MethodName)) ∈ lw_all := lw_in (lw_s6 (List.mem_of_getElem? (i := 207) (by decide +kernel))) (by decide +kernel)
theorem kw_1477 : (Jvm.Cond.code ({ cls := "FareLimitsModel", name := "drawnFare", desc := "(I)I" } : Jvm.MethodName) prog_14_method_52_code (5 : Nat) (Option.some Jvm.ClassFile.FieldType.int)) ∈ lw_all := lw_in (lw_s6 (List.mem_of_getElem? (i := 208) (by decide +kernel))) (by decide +kernel)
theorem kw_1478 : (Jvm.Cond.constant "FareLimitsModel" (214 : Nat) (1103515245 : Int32)) ∈ lw_all := lw_in (lw_s6 (List.mem_of_getElem? (i := 209) (by decide +kernel))) (by decide +kernel)
theorem kw_1479 : (Jvm.Cond.methodLink "FareLimitsModel" (221 : Nat) ({ cls := "FareLimitsModel", name := "has", desc := "(III)Z" } : Jvm.MethodName)) ∈ lw_all := lw_in (lw_s6 (List.mem_of_getElem? (i := 210) (by decide +kernel))) (by decide +kernel)
theorem kw_1481 : (Jvm.Cond.instanceMethod ({ cls := "FareLimitsModel", name := "has", desc := "(III)Z" } : Jvm.MethodName)) ∈ lw_all := lw_in (lw_s6 (List.mem_of_getElem? (i := 212) (by decide +kernel))) (by decide +kernel)
theorem kw_1482 : (Jvm.Cond.code ({ cls := "FareLimitsModel", name := "has", desc := "(III)Z" } : Jvm.MethodName) prog_14_method_51_code (4 : Nat) (Option.some Jvm.ClassFile.FieldType.boolean)) ∈ lw_all := lw_in (lw_s6 (List.mem_of_getElem? (i := 213) (by decide +kernel))) (by decide +kernel)
theorem kw_1483 : (Jvm.Cond.methodLink "FareLimitsModel" (208 : Nat) ({ cls := "FareLimitsModel", name := "isByHand", desc := "(I)Z" } : Jvm.MethodName)) ∈ lw_all := lw_in (lw_s6 (List.mem_of_getElem? (i := 214) (by decide +kernel))) (by decide +kernel)
theorem kw_1485 : (Jvm.Cond.instanceMethod ({ cls := "FareLimitsModel", name := "isByHand", desc := "(I)Z" } : Jvm.MethodName)) ∈ lw_all := lw_in (lw_s6 (List.mem_of_getElem? (i := 216) (by decide +kernel))) (by decide +kernel)
theorem kw_1486 : (Jvm.Cond.code ({ cls := "FareLimitsModel", name := "isByHand", desc := "(I)Z" } : Jvm.MethodName) prog_14_method_50_code (4 : Nat) (Option.some Jvm.ClassFile.FieldType.boolean)) ∈ lw_all := lw_in (lw_s6 (List.mem_of_getElem? (i := 217) (by decide +kernel))) (by decide +kernel)
theorem kw_1487 : (Jvm.Cond.methodLink "FareLimitsLaw" (98 : Nat) ({ cls := "FareLimitsModel", name := "leg", desc := "(III)I" } : Jvm.MethodName)) ∈ lw_all := lw_in (lw_s6 (List.mem_of_getElem? (i := 218) (by decide +kernel))) (by decide +kernel)
theorem kw_1488 : (Jvm.Cond.instanceMethod ({ cls := "FareLimitsModel", name := "leg", desc := "(III)I" } : Jvm.MethodName)) ∈ lw_all := lw_in (lw_s6 (List.mem_of_getElem? (i := 219) (by decide +kernel))) (by decide +kernel)
theorem kw_1489 : (Jvm.Cond.selects "FareLimitsModel" ({ cls := "FareLimitsModel", name := "leg", desc := "(III)I" } : Jvm.MethodName) ({ cls := "FareLimitsModel", name := "leg", desc := "(III)I" } : Jvm.MethodName)) ∈ lw_all := lw_in (lw_s6 (List.mem_of_getElem? (i := 220) (by decide +kernel))) (by decide +kernel)
theorem kw_1490 : (Jvm.Cond.code ({ cls := "FareLimitsModel", name := "leg", desc := "(III)I" } : Jvm.MethodName) prog_14_method_55_code (6 : Nat) (Option.some Jvm.ClassFile.FieldType.int)) ∈ lw_all := lw_in (lw_s6 (List.mem_of_getElem? (i := 221) (by decide +kernel))) (by decide +kernel)
theorem kw_1491 : (Jvm.Cond.methodLink "FareLimitsModel" (224 : Nat) ({ cls := "FareLimitsModel", name := "isLeg", desc := "(I)Z" } : Jvm.MethodName)) ∈ lw_all := lw_in (lw_s6 (List.mem_of_getElem? (i := 222) (by decide +kernel))) (by decide +kernel)
theorem kw_1492 : (Jvm.Cond.static ({ cls := "FareLimitsModel", name := "isLeg", desc := "(I)Z" } : Jvm.MethodName)) ∈ lw_all := lw_in (lw_s6 (List.mem_of_getElem? (i := 223) (by decide +kernel))) (by decide +kernel)
theorem kw_1493 : (Jvm.Cond.code ({ cls := "FareLimitsModel", name := "isLeg", desc := "(I)Z" } : Jvm.MethodName) prog_14_method_54_code (1 : Nat) (Option.some Jvm.ClassFile.FieldType.boolean)) ∈ lw_all := lw_in (lw_s6 (List.mem_of_getElem? (i := 224) (by decide +kernel))) (by decide +kernel)
theorem kw_1494 : (Jvm.Cond.constantLong "FareLimitsModel" (227 : Nat) (99 : Int64)) ∈ lw_all := lw_in (lw_s6 (List.mem_of_getElem? (i := 225) (by decide +kernel))) (by decide +kernel)
theorem kw_1495 : (Jvm.Cond.methodLink "FareLimitsLaw" (123 : Nat) ({ cls := "FareLimitsModel", name := "part", desc := "(II)I" } : Jvm.MethodName)) ∈ lw_all := lw_in (lw_s6 (List.mem_of_getElem? (i := 226) (by decide +kernel))) (by decide +kernel)
theorem kw_1496 : (Jvm.Cond.instanceMethod ({ cls := "FareLimitsModel", name := "part", desc := "(II)I" } : Jvm.MethodName)) ∈ lw_all := lw_in (lw_s6 (List.mem_of_getElem? (i := 227) (by decide +kernel))) (by decide +kernel)
theorem kw_1497 : (Jvm.Cond.selects "FareLimitsModel" ({ cls := "FareLimitsModel", name := "part", desc := "(II)I" } : Jvm.MethodName) ({ cls := "FareLimitsModel", name := "part", desc := "(II)I" } : Jvm.MethodName)) ∈ lw_all := lw_in (lw_s6 (List.mem_of_getElem? (i := 228) (by decide +kernel))) (by decide +kernel)
theorem kw_1498 : (Jvm.Cond.code ({ cls := "FareLimitsModel", name := "part", desc := "(II)I" } : Jvm.MethodName) prog_14_method_64_code (3 : Nat) (Option.some Jvm.ClassFile.FieldType.int)) ∈ lw_all := lw_in (lw_s6 (List.mem_of_getElem? (i := 229) (by decide +kernel))) (by decide +kernel)
theorem kw_1499 : (Jvm.Cond.methodLink "FareLimitsModel" (249 : Nat) ({ cls := "FareLimitsModel", name := "isRoute", desc := "(I)Z" } : Jvm.MethodName)) ∈ lw_all := lw_in (lw_s6 (List.mem_of_getElem? (i := 230) (by decide +kernel))) (by decide +kernel)
theorem kw_1501 : (Jvm.Cond.instanceMethod ({ cls := "FareLimitsModel", name := "isRoute", desc := "(I)Z" } : Jvm.MethodName)) ∈ lw_all := lw_in (lw_s6 (List.mem_of_getElem? (i := 232) (by decide +kernel))) (by decide +kernel)
theorem kw_1502 : (Jvm.Cond.code ({ cls := "FareLimitsModel", name := "isRoute", desc := "(I)Z" } : Jvm.MethodName) prog_14_method_56_code (2 : Nat) (Option.some Jvm.ClassFile.FieldType.boolean)) ∈ lw_all := lw_in (lw_s6 (List.mem_of_getElem? (i := 233) (by decide +kernel))) (by decide +kernel)
theorem kw_1503 : (Jvm.Cond.methodLink "FareLimitsModel" (232 : Nat) ({ cls := "FareLimitsModel", name := "isOver", desc := "(II)Z" } : Jvm.MethodName)) ∈ lw_all := lw_in (lw_s6 (List.mem_of_getElem? (i := 234) (by decide +kernel))) (by decide +kernel)
theorem kw_1505 : (Jvm.Cond.instanceMethod ({ cls := "FareLimitsModel", name := "isOver", desc := "(II)Z" } : Jvm.MethodName)) ∈ lw_all := lw_in (lw_s6 (List.mem_of_getElem? (i := 236) (by decide +kernel))) (by decide +kernel)
theorem kw_1506 : (Jvm.Cond.code ({ cls := "FareLimitsModel", name := "isOver", desc := "(II)Z" } : Jvm.MethodName) prog_14_method_58_code (3 : Nat) (Option.some Jvm.ClassFile.FieldType.boolean)) ∈ lw_all := lw_in (lw_s6 (List.mem_of_getElem? (i := 237) (by decide +kernel))) (by decide +kernel)
theorem kw_1507 : (Jvm.Cond.methodLink "FareLimitsModel" (229 : Nat) ({ cls := "FareLimitsModel", name := "legs", desc := "(I)I" } : Jvm.MethodName)) ∈ lw_all := lw_in (lw_s6 (List.mem_of_getElem? (i := 238) (by decide +kernel))) (by decide +kernel)
theorem kw_1509 : (Jvm.Cond.instanceMethod ({ cls := "FareLimitsModel", name := "legs", desc := "(I)I" } : Jvm.MethodName)) ∈ lw_all := lw_in (lw_s7 (List.mem_of_getElem? (i := 0) (by decide +kernel))) (by decide +kernel)
theorem kw_1510 : (Jvm.Cond.code ({ cls := "FareLimitsModel", name := "legs", desc := "(I)I" } : Jvm.MethodName) prog_14_method_57_code (2 : Nat) (Option.some Jvm.ClassFile.FieldType.int)) ∈ lw_all := lw_in (lw_s7 (List.mem_of_getElem? (i := 1) (by decide +kernel))) (by decide +kernel)
theorem kw_1511 : (Jvm.Cond.methodLink "FareLimitsModel" (238 : Nat) ({ cls := "FareLimitsModel", name := "partOf", desc := "(II)F" } : Jvm.MethodName)) ∈ lw_all := lw_in (lw_s7 (List.mem_of_getElem? (i := 2) (by decide +kernel))) (by decide +kernel)
theorem kw_1513 : (Jvm.Cond.instanceMethod ({ cls := "FareLimitsModel", name := "partOf", desc := "(II)F" } : Jvm.MethodName)) ∈ lw_all := lw_in (lw_s7 (List.mem_of_getElem? (i := 4) (by decide +kernel))) (by decide +kernel)
theorem kw_1514 : (Jvm.Cond.code ({ cls := "FareLimitsModel", name := "partOf", desc := "(II)F" } : Jvm.MethodName) prog_14_method_61_code (5 : Nat) (Option.some Jvm.ClassFile.FieldType.float)) ∈ lw_all := lw_in (lw_s7 (List.mem_of_getElem? (i := 5) (by decide +kernel))) (by decide +kernel)
theorem kw_1515 : (Jvm.Cond.methodLink "FareLimitsModel" (235 : Nat) ({ cls := "FareLimitsModel", name := "fee", desc := "(I)I" } : Jvm.MethodName)) ∈ lw_all := lw_in (lw_s7 (List.mem_of_getElem? (i := 6) (by decide +kernel))) (by decide +kernel)
theorem kw_1517 : (Jvm.Cond.instanceMethod ({ cls := "FareLimitsModel", name := "fee", desc := "(I)I" } : Jvm.MethodName)) ∈ lw_all := lw_in (lw_s7 (List.mem_of_getElem? (i := 8) (by decide +kernel))) (by decide +kernel)
theorem kw_1518 : (Jvm.Cond.code ({ cls := "FareLimitsModel", name := "fee", desc := "(I)I" } : Jvm.MethodName) prog_14_method_59_code (2 : Nat) (Option.some Jvm.ClassFile.FieldType.int)) ∈ lw_all := lw_in (lw_s7 (List.mem_of_getElem? (i := 9) (by decide +kernel))) (by decide +kernel)
theorem kw_1519 : (Jvm.Cond.methodLink "FareLimitsLaw" (127 : Nat) ({ cls := "FareLimitsModel", name := "cost", desc := "(I)I" } : Jvm.MethodName)) ∈ lw_all := lw_in (lw_s7 (List.mem_of_getElem? (i := 10) (by decide +kernel))) (by decide +kernel)
theorem kw_1520 : (Jvm.Cond.instanceMethod ({ cls := "FareLimitsModel", name := "cost", desc := "(I)I" } : Jvm.MethodName)) ∈ lw_all := lw_in (lw_s7 (List.mem_of_getElem? (i := 11) (by decide +kernel))) (by decide +kernel)
theorem kw_1521 : (Jvm.Cond.selects "FareLimitsModel" ({ cls := "FareLimitsModel", name := "cost", desc := "(I)I" } : Jvm.MethodName) ({ cls := "FareLimitsModel", name := "cost", desc := "(I)I" } : Jvm.MethodName)) ∈ lw_all := lw_in (lw_s7 (List.mem_of_getElem? (i := 12) (by decide +kernel))) (by decide +kernel)
theorem kw_1522 : (Jvm.Cond.code ({ cls := "FareLimitsModel", name := "cost", desc := "(I)I" } : Jvm.MethodName) prog_14_method_65_code (2 : Nat) (Option.some Jvm.ClassFile.FieldType.int)) ∈ lw_all := lw_in (lw_s7 (List.mem_of_getElem? (i := 13) (by decide +kernel))) (by decide +kernel)
theorem kw_1523 : (Jvm.Cond.methodLink "FareLimitsModel" (245 : Nat) ({ cls := "FareLimitsModel", name := "costOf", desc := "(I)F" } : Jvm.MethodName)) ∈ lw_all := lw_in (lw_s7 (List.mem_of_getElem? (i := 14) (by decide +kernel))) (by decide +kernel)
theorem kw_1525 : (Jvm.Cond.instanceMethod ({ cls := "FareLimitsModel", name := "costOf", desc := "(I)F" } : Jvm.MethodName)) ∈ lw_all := lw_in (lw_s7 (List.mem_of_getElem? (i := 16) (by decide +kernel))) (by decide +kernel)
theorem kw_1526 : (Jvm.Cond.code ({ cls := "FareLimitsModel", name := "costOf", desc := "(I)F" } : Jvm.MethodName) prog_14_method_62_code (6 : Nat) (Option.some Jvm.ClassFile.FieldType.float)) ∈ lw_all := lw_in (lw_s7 (List.mem_of_getElem? (i := 17) (by decide +kernel))) (by decide +kernel)
theorem kw_1527 : (Jvm.Cond.methodLink "FareLimitsModel" (242 : Nat) ({ cls := "FareLimitsModel", name := "wanted", desc := "(I)I" } : Jvm.MethodName)) ∈ lw_all := lw_in (lw_s7 (List.mem_of_getElem? (i := 18) (by decide +kernel))) (by decide +kernel)
theorem kw_1529 : (Jvm.Cond.instanceMethod ({ cls := "FareLimitsModel", name := "wanted", desc := "(I)I" } : Jvm.MethodName)) ∈ lw_all := lw_in (lw_s7 (List.mem_of_getElem? (i := 20) (by decide +kernel))) (by decide +kernel)
theorem kw_1530 : (Jvm.Cond.code ({ cls := "FareLimitsModel", name := "wanted", desc := "(I)I" } : Jvm.MethodName) prog_14_method_60_code (2 : Nat) (Option.some Jvm.ClassFile.FieldType.int)) ∈ lw_all := lw_in (lw_s7 (List.mem_of_getElem? (i := 21) (by decide +kernel))) (by decide +kernel)
theorem kw_1531 : (Jvm.Cond.methodLink "FareLimitsLaw" (119 : Nat) ({ cls := "FareLimitsModel", name := "route", desc := "(II)I" } : Jvm.MethodName)) ∈ lw_all := lw_in (lw_s7 (List.mem_of_getElem? (i := 22) (by decide +kernel))) (by decide +kernel)
theorem kw_1532 : (Jvm.Cond.instanceMethod ({ cls := "FareLimitsModel", name := "route", desc := "(II)I" } : Jvm.MethodName)) ∈ lw_all := lw_in (lw_s7 (List.mem_of_getElem? (i := 23) (by decide +kernel))) (by decide +kernel)
theorem kw_1533 : (Jvm.Cond.selects "FareLimitsModel" ({ cls := "FareLimitsModel", name := "route", desc := "(II)I" } : Jvm.MethodName) ({ cls := "FareLimitsModel", name := "route", desc := "(II)I" } : Jvm.MethodName)) ∈ lw_all := lw_in (lw_s7 (List.mem_of_getElem? (i := 24) (by decide +kernel))) (by decide +kernel)
theorem kw_1534 : (Jvm.Cond.code ({ cls := "FareLimitsModel", name := "route", desc := "(II)I" } : Jvm.MethodName) prog_14_method_67_code (3 : Nat) (Option.some Jvm.ClassFile.FieldType.int)) ∈ lw_all := lw_in (lw_s7 (List.mem_of_getElem? (i := 25) (by decide +kernel))) (by decide +kernel)
theorem kw_1535 : (Jvm.Cond.methodLink "FareLimitsModel" (252 : Nat) ({ cls := "FareLimitsModel", name := "letters", desc := "(I)I" } : Jvm.MethodName)) ∈ lw_all := lw_in (lw_s7 (List.mem_of_getElem? (i := 26) (by decide +kernel))) (by decide +kernel)
theorem kw_1537 : (Jvm.Cond.instanceMethod ({ cls := "FareLimitsModel", name := "letters", desc := "(I)I" } : Jvm.MethodName)) ∈ lw_all := lw_in (lw_s7 (List.mem_of_getElem? (i := 28) (by decide +kernel))) (by decide +kernel)
theorem kw_1538 : (Jvm.Cond.code ({ cls := "FareLimitsModel", name := "letters", desc := "(I)I" } : Jvm.MethodName) prog_14_method_66_code (3 : Nat) (Option.some Jvm.ClassFile.FieldType.int)) ∈ lw_all := lw_in (lw_s7 (List.mem_of_getElem? (i := 29) (by decide +kernel))) (by decide +kernel)
theorem kw_1539 : (Jvm.Cond.methodLink "FareLimitsModel" (255 : Nat) ({ cls := "FareLimitsModel", name := "isIn", desc := "(I)Z" } : Jvm.MethodName)) ∈ lw_all := lw_in (lw_s7 (List.mem_of_getElem? (i := 30) (by decide +kernel))) (by decide +kernel)
theorem kw_1541 : (Jvm.Cond.instanceMethod ({ cls := "FareLimitsModel", name := "isIn", desc := "(I)Z" } : Jvm.MethodName)) ∈ lw_all := lw_in (lw_s7 (List.mem_of_getElem? (i := 32) (by decide +kernel))) (by decide +kernel)
theorem kw_1542 : (Jvm.Cond.code ({ cls := "FareLimitsModel", name := "isIn", desc := "(I)Z" } : Jvm.MethodName) prog_14_method_63_code (5 : Nat) (Option.some Jvm.ClassFile.FieldType.boolean)) ∈ lw_all := lw_in (lw_s7 (List.mem_of_getElem? (i := 33) (by decide +kernel))) (by decide +kernel)
theorem kw_1543 : (Jvm.Cond.methodLink "FareLimitsLaw" (103 : Nat) ({ cls := "FareLimitsModel", name := "feed", desc := "(I)I" } : Jvm.MethodName)) ∈ lw_all := lw_in (lw_s7 (List.mem_of_getElem? (i := 34) (by decide +kernel))) (by decide +kernel)
theorem kw_1544 : (Jvm.Cond.instanceMethod ({ cls := "FareLimitsModel", name := "feed", desc := "(I)I" } : Jvm.MethodName)) ∈ lw_all := lw_in (lw_s7 (List.mem_of_getElem? (i := 35) (by decide +kernel))) (by decide +kernel)
theorem kw_1545 : (Jvm.Cond.selects "FareLimitsModel" ({ cls := "FareLimitsModel", name := "feed", desc := "(I)I" } : Jvm.MethodName) ({ cls := "FareLimitsModel", name := "feed", desc := "(I)I" } : Jvm.MethodName)) ∈ lw_all := lw_in (lw_s7 (List.mem_of_getElem? (i := 36) (by decide +kernel))) (by decide +kernel)
theorem kw_1546 : (Jvm.Cond.code ({ cls := "FareLimitsModel", name := "feed", desc := "(I)I" } : Jvm.MethodName) prog_14_method_68_code (2 : Nat) (Option.some Jvm.ClassFile.FieldType.int)) ∈ lw_all := lw_in (lw_s7 (List.mem_of_getElem? (i := 37) (by decide +kernel))) (by decide +kernel)
theorem kw_1547 : (Jvm.Cond.constantLong "FareLimitsModel" (258 : Nat) (127 : Int64)) ∈ lw_all := lw_in (lw_s7 (List.mem_of_getElem? (i := 38) (by decide +kernel))) (by decide +kernel)
theorem kw_1548 : (Jvm.Cond.methodLink "FareLimitsLaw" (107 : Nat) ({ cls := "FareLimitsModel", name := "clear", desc := "()I" } : Jvm.MethodName)) ∈ lw_all := lw_in (lw_s7 (List.mem_of_getElem? (i := 39) (by decide +kernel))) (by decide +kernel)
theorem kw_1549 : (Jvm.Cond.instanceMethod ({ cls := "FareLimitsModel", name := "clear", desc := "()I" } : Jvm.MethodName)) ∈ lw_all := lw_in (lw_s7 (List.mem_of_getElem? (i := 40) (by decide +kernel))) (by decide +kernel)
theorem kw_1550 : (Jvm.Cond.selects "FareLimitsModel" ({ cls := "FareLimitsModel", name := "clear", desc := "()I" } : Jvm.MethodName) ({ cls := "FareLimitsModel", name := "clear", desc := "()I" } : Jvm.MethodName)) ∈ lw_all := lw_in (lw_s7 (List.mem_of_getElem? (i := 41) (by decide +kernel))) (by decide +kernel)
theorem kw_1551 : (Jvm.Cond.code ({ cls := "FareLimitsModel", name := "clear", desc := "()I" } : Jvm.MethodName) prog_14_method_69_code (2 : Nat) (Option.some Jvm.ClassFile.FieldType.int)) ∈ lw_all := lw_in (lw_s7 (List.mem_of_getElem? (i := 42) (by decide +kernel))) (by decide +kernel)
theorem kw_1552 : (Jvm.Cond.methodLink "FareLimitsLaw" (111 : Nat) ({ cls := "FareLimitsModel", name := "book", desc := "()I" } : Jvm.MethodName)) ∈ lw_all := lw_in (lw_s7 (List.mem_of_getElem? (i := 43) (by decide +kernel))) (by decide +kernel)
theorem kw_1553 : (Jvm.Cond.instanceMethod ({ cls := "FareLimitsModel", name := "book", desc := "()I" } : Jvm.MethodName)) ∈ lw_all := lw_in (lw_s7 (List.mem_of_getElem? (i := 44) (by decide +kernel))) (by decide +kernel)
theorem kw_1554 : (Jvm.Cond.selects "FareLimitsModel" ({ cls := "FareLimitsModel", name := "book", desc := "()I" } : Jvm.MethodName) ({ cls := "FareLimitsModel", name := "book", desc := "()I" } : Jvm.MethodName)) ∈ lw_all := lw_in (lw_s7 (List.mem_of_getElem? (i := 45) (by decide +kernel))) (by decide +kernel)
theorem kw_1555 : (Jvm.Cond.code ({ cls := "FareLimitsModel", name := "book", desc := "()I" } : Jvm.MethodName) prog_14_method_80_code (2 : Nat) (Option.some Jvm.ClassFile.FieldType.int)) ∈ lw_all := lw_in (lw_s7 (List.mem_of_getElem? (i := 46) (by decide +kernel))) (by decide +kernel)
theorem kw_1556 : (Jvm.Cond.methodLink "FareLimitsModel" (293 : Nat) ({ cls := "FareLimitsModel", name := "pours", desc := "([I[I)V" } : Jvm.MethodName)) ∈ lw_all := lw_in (lw_s7 (List.mem_of_getElem? (i := 47) (by decide +kernel))) (by decide +kernel)
theorem kw_1557 : (Jvm.Cond.static ({ cls := "FareLimitsModel", name := "pours", desc := "([I[I)V" } : Jvm.MethodName)) ∈ lw_all := lw_in (lw_s7 (List.mem_of_getElem? (i := 48) (by decide +kernel))) (by decide +kernel)
theorem kw_1558 : (Jvm.Cond.code ({ cls := "FareLimitsModel", name := "pours", desc := "([I[I)V" } : Jvm.MethodName) prog_14_method_79_code (3 : Nat) (Option.none : Option Jvm.ClassFile.FieldType)) ∈ lw_all := lw_in (lw_s7 (List.mem_of_getElem? (i := 49) (by decide +kernel))) (by decide +kernel)
theorem kw_1559 : (Jvm.Cond.methodLink "FareLimitsModel" (297 : Nat) ({ cls := "FareLimitsModel", name := "readRoute", desc := "()V" } : Jvm.MethodName)) ∈ lw_all := lw_in (lw_s7 (List.mem_of_getElem? (i := 50) (by decide +kernel))) (by decide +kernel)
theorem kw_1561 : (Jvm.Cond.instanceMethod ({ cls := "FareLimitsModel", name := "readRoute", desc := "()V" } : Jvm.MethodName)) ∈ lw_all := lw_in (lw_s7 (List.mem_of_getElem? (i := 52) (by decide +kernel))) (by decide +kernel)
theorem kw_1562 : (Jvm.Cond.code ({ cls := "FareLimitsModel", name := "readRoute", desc := "()V" } : Jvm.MethodName) prog_14_method_78_code (2 : Nat) (Option.none : Option Jvm.ClassFile.FieldType)) ∈ lw_all := lw_in (lw_s7 (List.mem_of_getElem? (i := 53) (by decide +kernel))) (by decide +kernel)
theorem kw_1563 : (Jvm.Cond.methodLink "FareLimitsModel" (272 : Nat) ({ cls := "FareLimitsModel", name := "wrong", desc := "(I)V" } : Jvm.MethodName)) ∈ lw_all := lw_in (lw_s7 (List.mem_of_getElem? (i := 54) (by decide +kernel))) (by decide +kernel)
theorem kw_1565 : (Jvm.Cond.instanceMethod ({ cls := "FareLimitsModel", name := "wrong", desc := "(I)V" } : Jvm.MethodName)) ∈ lw_all := lw_in (lw_s7 (List.mem_of_getElem? (i := 56) (by decide +kernel))) (by decide +kernel)
theorem kw_1566 : (Jvm.Cond.code ({ cls := "FareLimitsModel", name := "wrong", desc := "(I)V" } : Jvm.MethodName) prog_14_method_70_code (2 : Nat) (Option.none : Option Jvm.ClassFile.FieldType)) ∈ lw_all := lw_in (lw_s7 (List.mem_of_getElem? (i := 57) (by decide +kernel))) (by decide +kernel)
theorem kw_1567 : (Jvm.Cond.methodLink "FareLimitsModel" (281 : Nat) ({ cls := "FareLimitsModel", name := "name", desc := "()V" } : Jvm.MethodName)) ∈ lw_all := lw_in (lw_s7 (List.mem_of_getElem? (i := 58) (by decide +kernel))) (by decide +kernel)
theorem kw_1569 : (Jvm.Cond.instanceMethod ({ cls := "FareLimitsModel", name := "name", desc := "()V" } : Jvm.MethodName)) ∈ lw_all := lw_in (lw_s7 (List.mem_of_getElem? (i := 60) (by decide +kernel))) (by decide +kernel)
theorem kw_1570 : (Jvm.Cond.code ({ cls := "FareLimitsModel", name := "name", desc := "()V" } : Jvm.MethodName) prog_14_method_75_code (3 : Nat) (Option.none : Option Jvm.ClassFile.FieldType)) ∈ lw_all := lw_in (lw_s7 (List.mem_of_getElem? (i := 61) (by decide +kernel))) (by decide +kernel)
theorem kw_1571 : (Jvm.Cond.methodLink "FareLimitsModel" (269 : Nat) ({ cls := "FareLimitsModel", name := "isSign", desc := "(II)Z" } : Jvm.MethodName)) ∈ lw_all := lw_in (lw_s7 (List.mem_of_getElem? (i := 62) (by decide +kernel))) (by decide +kernel)
theorem kw_1573 : (Jvm.Cond.instanceMethod ({ cls := "FareLimitsModel", name := "isSign", desc := "(II)Z" } : Jvm.MethodName)) ∈ lw_all := lw_in (lw_s7 (List.mem_of_getElem? (i := 64) (by decide +kernel))) (by decide +kernel)
theorem kw_1574 : (Jvm.Cond.code ({ cls := "FareLimitsModel", name := "isSign", desc := "(II)Z" } : Jvm.MethodName) prog_14_method_71_code (3 : Nat) (Option.some Jvm.ClassFile.FieldType.boolean)) ∈ lw_all := lw_in (lw_s7 (List.mem_of_getElem? (i := 65) (by decide +kernel))) (by decide +kernel)
theorem kw_1575 : (Jvm.Cond.methodLink "FareLimitsModel" (275 : Nat) ({ cls := "FareLimitsModel", name := "by", desc := "(I)I" } : Jvm.MethodName)) ∈ lw_all := lw_in (lw_s7 (List.mem_of_getElem? (i := 66) (by decide +kernel))) (by decide +kernel)
theorem kw_1577 : (Jvm.Cond.instanceMethod ({ cls := "FareLimitsModel", name := "by", desc := "(I)I" } : Jvm.MethodName)) ∈ lw_all := lw_in (lw_s7 (List.mem_of_getElem? (i := 68) (by decide +kernel))) (by decide +kernel)
theorem kw_1578 : (Jvm.Cond.code ({ cls := "FareLimitsModel", name := "by", desc := "(I)I" } : Jvm.MethodName) prog_14_method_74_code (3 : Nat) (Option.some Jvm.ClassFile.FieldType.int)) ∈ lw_all := lw_in (lw_s7 (List.mem_of_getElem? (i := 69) (by decide +kernel))) (by decide +kernel)
theorem kw_1579 : (Jvm.Cond.methodLink "FareLimitsModel" (284 : Nat) ({ cls := "FareLimitsModel", name := "needs", desc := "(I)V" } : Jvm.MethodName)) ∈ lw_all := lw_in (lw_s7 (List.mem_of_getElem? (i := 70) (by decide +kernel))) (by decide +kernel)
theorem kw_1581 : (Jvm.Cond.instanceMethod ({ cls := "FareLimitsModel", name := "needs", desc := "(I)V" } : Jvm.MethodName)) ∈ lw_all := lw_in (lw_s7 (List.mem_of_getElem? (i := 72) (by decide +kernel))) (by decide +kernel)
theorem kw_1582 : (Jvm.Cond.code ({ cls := "FareLimitsModel", name := "needs", desc := "(I)V" } : Jvm.MethodName) prog_14_method_76_code (2 : Nat) (Option.none : Option Jvm.ClassFile.FieldType)) ∈ lw_all := lw_in (lw_s7 (List.mem_of_getElem? (i := 73) (by decide +kernel))) (by decide +kernel)
theorem kw_1583 : (Jvm.Cond.methodLink "FareLimitsModel" (278 : Nat) ({ cls := "FareLimitsModel", name := "takes", desc := "(I)Z" } : Jvm.MethodName)) ∈ lw_all := lw_in (lw_s7 (List.mem_of_getElem? (i := 74) (by decide +kernel))) (by decide +kernel)
theorem kw_1585 : (Jvm.Cond.instanceMethod ({ cls := "FareLimitsModel", name := "takes", desc := "(I)Z" } : Jvm.MethodName)) ∈ lw_all := lw_in (lw_s7 (List.mem_of_getElem? (i := 76) (by decide +kernel))) (by decide +kernel)
theorem kw_1586 : (Jvm.Cond.code ({ cls := "FareLimitsModel", name := "takes", desc := "(I)Z" } : Jvm.MethodName) prog_14_method_72_code (3 : Nat) (Option.some Jvm.ClassFile.FieldType.boolean)) ∈ lw_all := lw_in (lw_s7 (List.mem_of_getElem? (i := 77) (by decide +kernel))) (by decide +kernel)
theorem kw_1587 : (Jvm.Cond.methodLink "FareLimitsModel" (287 : Nat) ({ cls := "FareLimitsModel", name := "number", desc := "(II)I" } : Jvm.MethodName)) ∈ lw_all := lw_in (lw_s7 (List.mem_of_getElem? (i := 78) (by decide +kernel))) (by decide +kernel)
theorem kw_1589 : (Jvm.Cond.instanceMethod ({ cls := "FareLimitsModel", name := "number", desc := "(II)I" } : Jvm.MethodName)) ∈ lw_all := lw_in (lw_s7 (List.mem_of_getElem? (i := 80) (by decide +kernel))) (by decide +kernel)
theorem kw_1590 : (Jvm.Cond.code ({ cls := "FareLimitsModel", name := "number", desc := "(II)I" } : Jvm.MethodName) prog_14_method_73_code (5 : Nat) (Option.some Jvm.ClassFile.FieldType.int)) ∈ lw_all := lw_in (lw_s7 (List.mem_of_getElem? (i := 81) (by decide +kernel))) (by decide +kernel)
theorem kw_1591 : (Jvm.Cond.methodLink "FareLimitsModel" (290 : Nat) ({ cls := "FareLimitsModel", name := "comes", desc := "()V" } : Jvm.MethodName)) ∈ lw_all := lw_in (lw_s7 (List.mem_of_getElem? (i := 82) (by decide +kernel))) (by decide +kernel)
theorem kw_1593 : (Jvm.Cond.instanceMethod ({ cls := "FareLimitsModel", name := "comes", desc := "()V" } : Jvm.MethodName)) ∈ lw_all := lw_in (lw_s7 (List.mem_of_getElem? (i := 84) (by decide +kernel))) (by decide +kernel)
theorem kw_1594 : (Jvm.Cond.code ({ cls := "FareLimitsModel", name := "comes", desc := "()V" } : Jvm.MethodName) prog_14_method_77_code (3 : Nat) (Option.none : Option Jvm.ClassFile.FieldType)) ∈ lw_all := lw_in (lw_s7 (List.mem_of_getElem? (i := 85) (by decide +kernel))) (by decide +kernel)
theorem kw_1595 : (Jvm.Cond.methodLink "FareLimitsLaw" (115 : Nat) ({ cls := "FareLimitsModel", name := "ends", desc := "()I" } : Jvm.MethodName)) ∈ lw_all := lw_in (lw_s7 (List.mem_of_getElem? (i := 86) (by decide +kernel))) (by decide +kernel)
theorem kw_1596 : (Jvm.Cond.instanceMethod ({ cls := "FareLimitsModel", name := "ends", desc := "()I" } : Jvm.MethodName)) ∈ lw_all := lw_in (lw_s7 (List.mem_of_getElem? (i := 87) (by decide +kernel))) (by decide +kernel)
theorem kw_1597 : (Jvm.Cond.selects "FareLimitsModel" ({ cls := "FareLimitsModel", name := "ends", desc := "()I" } : Jvm.MethodName) ({ cls := "FareLimitsModel", name := "ends", desc := "()I" } : Jvm.MethodName)) ∈ lw_all := lw_in (lw_s7 (List.mem_of_getElem? (i := 88) (by decide +kernel))) (by decide +kernel)
theorem kw_1598 : (Jvm.Cond.code ({ cls := "FareLimitsModel", name := "ends", desc := "()I" } : Jvm.MethodName) prog_14_method_81_code (5 : Nat) (Option.some Jvm.ClassFile.FieldType.int)) ∈ lw_all := lw_in (lw_s7 (List.mem_of_getElem? (i := 89) (by decide +kernel))) (by decide +kernel)
theorem kw_1599 : (Jvm.Cond.methodLink "FareLimitsLaw" (131 : Nat) ({ cls := "FareLimitsModel", name := "replay", desc := "(I)I" } : Jvm.MethodName)) ∈ lw_all := lw_in (lw_s7 (List.mem_of_getElem? (i := 90) (by decide +kernel))) (by decide +kernel)
theorem kw_1600 : (Jvm.Cond.instanceMethod ({ cls := "FareLimitsModel", name := "replay", desc := "(I)I" } : Jvm.MethodName)) ∈ lw_all := lw_in (lw_s7 (List.mem_of_getElem? (i := 91) (by decide +kernel))) (by decide +kernel)
theorem kw_1601 : (Jvm.Cond.selects "FareLimitsModel" ({ cls := "FareLimitsModel", name := "replay", desc := "(I)I" } : Jvm.MethodName) ({ cls := "FareLimitsModel", name := "replay", desc := "(I)I" } : Jvm.MethodName)) ∈ lw_all := lw_in (lw_s7 (List.mem_of_getElem? (i := 92) (by decide +kernel))) (by decide +kernel)
theorem kw_1602 : (Jvm.Cond.code ({ cls := "FareLimitsModel", name := "replay", desc := "(I)I" } : Jvm.MethodName) prog_14_method_85_code (3 : Nat) (Option.some Jvm.ClassFile.FieldType.int)) ∈ lw_all := lw_in (lw_s7 (List.mem_of_getElem? (i := 93) (by decide +kernel))) (by decide +kernel)
theorem kw_1603 : (Jvm.Cond.constantLong "FareLimitsModel" (307 : Nat) (4 : Int64)) ∈ lw_all := lw_in (lw_s7 (List.mem_of_getElem? (i := 94) (by decide +kernel))) (by decide +kernel)
theorem kw_1604 : (Jvm.Cond.methodLink "FareLimitsModel" (309 : Nat) ({ cls := "FareLimitsModel", name := "goes", desc := "(I)I" } : Jvm.MethodName)) ∈ lw_all := lw_in (lw_s7 (List.mem_of_getElem? (i := 95) (by decide +kernel))) (by decide +kernel)
theorem kw_1606 : (Jvm.Cond.instanceMethod ({ cls := "FareLimitsModel", name := "goes", desc := "(I)I" } : Jvm.MethodName)) ∈ lw_all := lw_in (lw_s7 (List.mem_of_getElem? (i := 97) (by decide +kernel))) (by decide +kernel)
theorem kw_1607 : (Jvm.Cond.code ({ cls := "FareLimitsModel", name := "goes", desc := "(I)I" } : Jvm.MethodName) prog_14_method_84_code (5 : Nat) (Option.some Jvm.ClassFile.FieldType.int)) ∈ lw_all := lw_in (lw_s7 (List.mem_of_getElem? (i := 98) (by decide +kernel))) (by decide +kernel)
theorem kw_1608 : (Jvm.Cond.methodLink "FareLimitsModel" (300 : Nat) ({ cls := "FareLimitsModel", name := "wrongSign", desc := "()I" } : Jvm.MethodName)) ∈ lw_all := lw_in (lw_s7 (List.mem_of_getElem? (i := 99) (by decide +kernel))) (by decide +kernel)
theorem kw_1610 : (Jvm.Cond.instanceMethod ({ cls := "FareLimitsModel", name := "wrongSign", desc := "()I" } : Jvm.MethodName)) ∈ lw_all := lw_in (lw_s7 (List.mem_of_getElem? (i := 101) (by decide +kernel))) (by decide +kernel)
theorem kw_1611 : (Jvm.Cond.code ({ cls := "FareLimitsModel", name := "wrongSign", desc := "()I" } : Jvm.MethodName) prog_14_method_82_code (2 : Nat) (Option.some Jvm.ClassFile.FieldType.int)) ∈ lw_all := lw_in (lw_s7 (List.mem_of_getElem? (i := 102) (by decide +kernel))) (by decide +kernel)
theorem kw_1612 : (Jvm.Cond.methodLink "FareLimitsModel" (312 : Nat) ({ cls := "FareLimitsModel", name := "behind", desc := "(I)I" } : Jvm.MethodName)) ∈ lw_all := lw_in (lw_s7 (List.mem_of_getElem? (i := 103) (by decide +kernel))) (by decide +kernel)
theorem kw_1614 : (Jvm.Cond.instanceMethod ({ cls := "FareLimitsModel", name := "behind", desc := "(I)I" } : Jvm.MethodName)) ∈ lw_all := lw_in (lw_s7 (List.mem_of_getElem? (i := 105) (by decide +kernel))) (by decide +kernel)
theorem kw_1615 : (Jvm.Cond.code ({ cls := "FareLimitsModel", name := "behind", desc := "(I)I" } : Jvm.MethodName) prog_14_method_83_code (6 : Nat) (Option.some Jvm.ClassFile.FieldType.int)) ∈ lw_all := lw_in (lw_s7 (List.mem_of_getElem? (i := 106) (by decide +kernel))) (by decide +kernel)
theorem kw_1616 : (Jvm.Cond.methodLink "FareLimitsLaw" (159 : Nat) ({ cls := "FareLimitsModel", name := "byHand", desc := "(I)I" } : Jvm.MethodName)) ∈ lw_all := lw_in (lw_s7 (List.mem_of_getElem? (i := 107) (by decide +kernel))) (by decide +kernel)
theorem kw_1617 : (Jvm.Cond.instanceMethod ({ cls := "FareLimitsModel", name := "byHand", desc := "(I)I" } : Jvm.MethodName)) ∈ lw_all := lw_in (lw_s7 (List.mem_of_getElem? (i := 108) (by decide +kernel))) (by decide +kernel)
theorem kw_1618 : (Jvm.Cond.selects "FareLimitsModel" ({ cls := "FareLimitsModel", name := "byHand", desc := "(I)I" } : Jvm.MethodName) ({ cls := "FareLimitsModel", name := "byHand", desc := "(I)I" } : Jvm.MethodName)) ∈ lw_all := lw_in (lw_s7 (List.mem_of_getElem? (i := 109) (by decide +kernel))) (by decide +kernel)
theorem kw_1619 : (Jvm.Cond.code ({ cls := "FareLimitsModel", name := "byHand", desc := "(I)I" } : Jvm.MethodName) prog_14_method_86_code (3 : Nat) (Option.some Jvm.ClassFile.FieldType.int)) ∈ lw_all := lw_in (lw_s7 (List.mem_of_getElem? (i := 110) (by decide +kernel))) (by decide +kernel)
theorem kw_1620 : (Jvm.Cond.methodLink "FareLimitsLaw" (135 : Nat) ({ cls := "FareLimitsModel", name := "spell", desc := "()I" } : Jvm.MethodName)) ∈ lw_all := lw_in (lw_s7 (List.mem_of_getElem? (i := 111) (by decide +kernel))) (by decide +kernel)
theorem kw_1621 : (Jvm.Cond.instanceMethod ({ cls := "FareLimitsModel", name := "spell", desc := "()I" } : Jvm.MethodName)) ∈ lw_all := lw_in (lw_s7 (List.mem_of_getElem? (i := 112) (by decide +kernel))) (by decide +kernel)
theorem kw_1622 : (Jvm.Cond.selects "FareLimitsModel" ({ cls := "FareLimitsModel", name := "spell", desc := "()I" } : Jvm.MethodName) ({ cls := "FareLimitsModel", name := "spell", desc := "()I" } : Jvm.MethodName)) ∈ lw_all := lw_in (lw_s7 (List.mem_of_getElem? (i := 113) (by decide +kernel))) (by decide +kernel)
theorem kw_1623 : (Jvm.Cond.code ({ cls := "FareLimitsModel", name := "spell", desc := "()I" } : Jvm.MethodName) prog_14_method_89_code (3 : Nat) (Option.some Jvm.ClassFile.FieldType.int)) ∈ lw_all := lw_in (lw_s7 (List.mem_of_getElem? (i := 114) (by decide +kernel))) (by decide +kernel)
theorem kw_1624 : (Jvm.Cond.methodLink "FareLimitsModel" (321 : Nat) ({ cls := "FareLimitsModel", name := "writes", desc := "(I)V" } : Jvm.MethodName)) ∈ lw_all := lw_in (lw_s7 (List.mem_of_getElem? (i := 115) (by decide +kernel))) (by decide +kernel)
theorem kw_1626 : (Jvm.Cond.instanceMethod ({ cls := "FareLimitsModel", name := "writes", desc := "(I)V" } : Jvm.MethodName)) ∈ lw_all := lw_in (lw_s7 (List.mem_of_getElem? (i := 117) (by decide +kernel))) (by decide +kernel)
theorem kw_1627 : (Jvm.Cond.code ({ cls := "FareLimitsModel", name := "writes", desc := "(I)V" } : Jvm.MethodName) prog_14_method_87_code (2 : Nat) (Option.none : Option Jvm.ClassFile.FieldType)) ∈ lw_all := lw_in (lw_s7 (List.mem_of_getElem? (i := 118) (by decide +kernel))) (by decide +kernel)
theorem kw_1628 : (Jvm.Cond.methodLink "FareLimitsModel" (318 : Nat) ({ cls := "FareLimitsModel", name := "writesNumber", desc := "(I)V" } : Jvm.MethodName)) ∈ lw_all := lw_in (lw_s7 (List.mem_of_getElem? (i := 119) (by decide +kernel))) (by decide +kernel)
theorem kw_1630 : (Jvm.Cond.instanceMethod ({ cls := "FareLimitsModel", name := "writesNumber", desc := "(I)V" } : Jvm.MethodName)) ∈ lw_all := lw_in (lw_s7 (List.mem_of_getElem? (i := 121) (by decide +kernel))) (by decide +kernel)
theorem kw_1631 : (Jvm.Cond.code ({ cls := "FareLimitsModel", name := "writesNumber", desc := "(I)V" } : Jvm.MethodName) prog_14_method_88_code (2 : Nat) (Option.none : Option Jvm.ClassFile.FieldType)) ∈ lw_all := lw_in (lw_s7 (List.mem_of_getElem? (i := 122) (by decide +kernel))) (by decide +kernel)
theorem kw_1632 : (Jvm.Cond.methodLink "FareLimitsLaw" (139 : Nat) ({ cls := "FareLimitsModel", name := "paper", desc := "(I)I" } : Jvm.MethodName)) ∈ lw_all := lw_in (lw_s7 (List.mem_of_getElem? (i := 123) (by decide +kernel))) (by decide +kernel)
theorem kw_1633 : (Jvm.Cond.instanceMethod ({ cls := "FareLimitsModel", name := "paper", desc := "(I)I" } : Jvm.MethodName)) ∈ lw_all := lw_in (lw_s7 (List.mem_of_getElem? (i := 124) (by decide +kernel))) (by decide +kernel)
theorem kw_1634 : (Jvm.Cond.selects "FareLimitsModel" ({ cls := "FareLimitsModel", name := "paper", desc := "(I)I" } : Jvm.MethodName) ({ cls := "FareLimitsModel", name := "paper", desc := "(I)I" } : Jvm.MethodName)) ∈ lw_all := lw_in (lw_s7 (List.mem_of_getElem? (i := 125) (by decide +kernel))) (by decide +kernel)
theorem kw_1635 : (Jvm.Cond.code ({ cls := "FareLimitsModel", name := "paper", desc := "(I)I" } : Jvm.MethodName) prog_14_method_90_code (2 : Nat) (Option.some Jvm.ClassFile.FieldType.int)) ∈ lw_all := lw_in (lw_s7 (List.mem_of_getElem? (i := 126) (by decide +kernel))) (by decide +kernel)
theorem kw_1636 : (Jvm.Cond.methodLink "FareLimitsLaw" (143 : Nat) ({ cls := "FareLimitsModel", name := "told", desc := "(I)I" } : Jvm.MethodName)) ∈ lw_all := lw_in (lw_s7 (List.mem_of_getElem? (i := 127) (by decide +kernel))) (by decide +kernel)
theorem kw_1637 : (Jvm.Cond.instanceMethod ({ cls := "FareLimitsModel", name := "told", desc := "(I)I" } : Jvm.MethodName)) ∈ lw_all := lw_in (lw_s7 (List.mem_of_getElem? (i := 128) (by decide +kernel))) (by decide +kernel)
theorem kw_1638 : (Jvm.Cond.selects "FareLimitsModel" ({ cls := "FareLimitsModel", name := "told", desc := "(I)I" } : Jvm.MethodName) ({ cls := "FareLimitsModel", name := "told", desc := "(I)I" } : Jvm.MethodName)) ∈ lw_all := lw_in (lw_s7 (List.mem_of_getElem? (i := 129) (by decide +kernel))) (by decide +kernel)
theorem kw_1639 : (Jvm.Cond.code ({ cls := "FareLimitsModel", name := "told", desc := "(I)I" } : Jvm.MethodName) prog_14_method_93_code (2 : Nat) (Option.some Jvm.ClassFile.FieldType.int)) ∈ lw_all := lw_in (lw_s7 (List.mem_of_getElem? (i := 130) (by decide +kernel))) (by decide +kernel)
theorem kw_1640 : (Jvm.Cond.constantLong "FareLimitsModel" (324 : Nat) (10 : Int64)) ∈ lw_all := lw_in (lw_s7 (List.mem_of_getElem? (i := 131) (by decide +kernel))) (by decide +kernel)
theorem kw_1641 : (Jvm.Cond.constantLong "FareLimitsModel" (326 : Nat) (13 : Int64)) ∈ lw_all := lw_in (lw_s7 (List.mem_of_getElem? (i := 132) (by decide +kernel))) (by decide +kernel)
theorem kw_1642 : (Jvm.Cond.constantLong "FareLimitsModel" (328 : Nat) (23 : Int64)) ∈ lw_all := lw_in (lw_s7 (List.mem_of_getElem? (i := 133) (by decide +kernel))) (by decide +kernel)
theorem kw_1643 : (Jvm.Cond.constantLong "FareLimitsModel" (330 : Nat) (35 : Int64)) ∈ lw_all := lw_in (lw_s7 (List.mem_of_getElem? (i := 134) (by decide +kernel))) (by decide +kernel)
theorem kw_1644 : (Jvm.Cond.methodLink "FareLimitsModel" (332 : Nat) ({ cls := "FareLimitsModel", name := "unlike", desc := "()I" } : Jvm.MethodName)) ∈ lw_all := lw_in (lw_s7 (List.mem_of_getElem? (i := 135) (by decide +kernel))) (by decide +kernel)
theorem kw_1646 : (Jvm.Cond.instanceMethod ({ cls := "FareLimitsModel", name := "unlike", desc := "()I" } : Jvm.MethodName)) ∈ lw_all := lw_in (lw_s7 (List.mem_of_getElem? (i := 137) (by decide +kernel))) (by decide +kernel)
theorem kw_1647 : (Jvm.Cond.code ({ cls := "FareLimitsModel", name := "unlike", desc := "()I" } : Jvm.MethodName) prog_14_method_91_code (5 : Nat) (Option.some Jvm.ClassFile.FieldType.int)) ∈ lw_all := lw_in (lw_s7 (List.mem_of_getElem? (i := 138) (by decide +kernel))) (by decide +kernel)
theorem kw_1648 : (Jvm.Cond.methodLink "FareLimitsModel" (335 : Nat) ({ cls := "FareLimitsModel", name := "greatest", desc := "()I" } : Jvm.MethodName)) ∈ lw_all := lw_in (lw_s7 (List.mem_of_getElem? (i := 139) (by decide +kernel))) (by decide +kernel)
theorem kw_1650 : (Jvm.Cond.instanceMethod ({ cls := "FareLimitsModel", name := "greatest", desc := "()I" } : Jvm.MethodName)) ∈ lw_all := lw_in (lw_s7 (List.mem_of_getElem? (i := 141) (by decide +kernel))) (by decide +kernel)
theorem kw_1651 : (Jvm.Cond.code ({ cls := "FareLimitsModel", name := "greatest", desc := "()I" } : Jvm.MethodName) prog_14_method_92_code (3 : Nat) (Option.some Jvm.ClassFile.FieldType.int)) ∈ lw_all := lw_in (lw_s7 (List.mem_of_getElem? (i := 142) (by decide +kernel))) (by decide +kernel)
theorem kw_1652 : (Jvm.Cond.methodLink "FareLimitsLaw" (172 : Nat) ({ cls := "FareLimitsModel", name := "tray", desc := "(III)I" } : Jvm.MethodName)) ∈ lw_all := lw_in (lw_s7 (List.mem_of_getElem? (i := 143) (by decide +kernel))) (by decide +kernel)
theorem kw_1653 : (Jvm.Cond.instanceMethod ({ cls := "FareLimitsModel", name := "tray", desc := "(III)I" } : Jvm.MethodName)) ∈ lw_all := lw_in (lw_s7 (List.mem_of_getElem? (i := 144) (by decide +kernel))) (by decide +kernel)
theorem kw_1654 : (Jvm.Cond.selects "FareLimitsModel" ({ cls := "FareLimitsModel", name := "tray", desc := "(III)I" } : Jvm.MethodName) ({ cls := "FareLimitsModel", name := "tray", desc := "(III)I" } : Jvm.MethodName)) ∈ lw_all := lw_in (lw_s7 (List.mem_of_getElem? (i := 145) (by decide +kernel))) (by decide +kernel)
theorem kw_1655 : (Jvm.Cond.code ({ cls := "FareLimitsModel", name := "tray", desc := "(III)I" } : Jvm.MethodName) prog_14_method_96_code (5 : Nat) (Option.some Jvm.ClassFile.FieldType.int)) ∈ lw_all := lw_in (lw_s7 (List.mem_of_getElem? (i := 146) (by decide +kernel))) (by decide +kernel)
theorem kw_1656 : (Jvm.Cond.methodLink "FareLimitsModel" (338 : Nat) ({ cls := "FareLimitsModel", name := "isTray", desc := "(I)Z" } : Jvm.MethodName)) ∈ lw_all := lw_in (lw_s7 (List.mem_of_getElem? (i := 147) (by decide +kernel))) (by decide +kernel)
theorem kw_1657 : (Jvm.Cond.static ({ cls := "FareLimitsModel", name := "isTray", desc := "(I)Z" } : Jvm.MethodName)) ∈ lw_all := lw_in (lw_s7 (List.mem_of_getElem? (i := 148) (by decide +kernel))) (by decide +kernel)
theorem kw_1658 : (Jvm.Cond.code ({ cls := "FareLimitsModel", name := "isTray", desc := "(I)Z" } : Jvm.MethodName) prog_14_method_94_code (1 : Nat) (Option.some Jvm.ClassFile.FieldType.boolean)) ∈ lw_all := lw_in (lw_s7 (List.mem_of_getElem? (i := 149) (by decide +kernel))) (by decide +kernel)
theorem kw_1659 : (Jvm.Cond.methodLink "FareLimitsLaw" (176 : Nat) ({ cls := "FareLimitsModel", name := "lays", desc := "(III)I" } : Jvm.MethodName)) ∈ lw_all := lw_in (lw_s7 (List.mem_of_getElem? (i := 150) (by decide +kernel))) (by decide +kernel)
theorem kw_1660 : (Jvm.Cond.instanceMethod ({ cls := "FareLimitsModel", name := "lays", desc := "(III)I" } : Jvm.MethodName)) ∈ lw_all := lw_in (lw_s7 (List.mem_of_getElem? (i := 151) (by decide +kernel))) (by decide +kernel)
theorem kw_1661 : (Jvm.Cond.selects "FareLimitsModel" ({ cls := "FareLimitsModel", name := "lays", desc := "(III)I" } : Jvm.MethodName) ({ cls := "FareLimitsModel", name := "lays", desc := "(III)I" } : Jvm.MethodName)) ∈ lw_all := lw_in (lw_s7 (List.mem_of_getElem? (i := 152) (by decide +kernel))) (by decide +kernel)
theorem kw_1662 : (Jvm.Cond.code ({ cls := "FareLimitsModel", name := "lays", desc := "(III)I" } : Jvm.MethodName) prog_14_method_98_code (5 : Nat) (Option.some Jvm.ClassFile.FieldType.int)) ∈ lw_all := lw_in (lw_s7 (List.mem_of_getElem? (i := 153) (by decide +kernel))) (by decide +kernel)
theorem kw_1663 : (Jvm.Cond.methodLink "FareLimitsModel" (341 : Nat) ({ cls := "FareLimitsModel", name := "whyNot", desc := "(II)I" } : Jvm.MethodName)) ∈ lw_all := lw_in (lw_s7 (List.mem_of_getElem? (i := 154) (by decide +kernel))) (by decide +kernel)
theorem kw_1665 : (Jvm.Cond.instanceMethod ({ cls := "FareLimitsModel", name := "whyNot", desc := "(II)I" } : Jvm.MethodName)) ∈ lw_all := lw_in (lw_s7 (List.mem_of_getElem? (i := 156) (by decide +kernel))) (by decide +kernel)
theorem kw_1666 : (Jvm.Cond.code ({ cls := "FareLimitsModel", name := "whyNot", desc := "(II)I" } : Jvm.MethodName) prog_14_method_97_code (3 : Nat) (Option.some Jvm.ClassFile.FieldType.int)) ∈ lw_all := lw_in (lw_s7 (List.mem_of_getElem? (i := 157) (by decide +kernel))) (by decide +kernel)
theorem kw_1667 : (Jvm.Cond.methodLink "FareLimitsModel" (344 : Nat) ({ cls := "FareLimitsModel", name := "isUnder", desc := "(II)Z" } : Jvm.MethodName)) ∈ lw_all := lw_in (lw_s7 (List.mem_of_getElem? (i := 158) (by decide +kernel))) (by decide +kernel)
theorem kw_1668 : (Jvm.Cond.static ({ cls := "FareLimitsModel", name := "isUnder", desc := "(II)Z" } : Jvm.MethodName)) ∈ lw_all := lw_in (lw_s7 (List.mem_of_getElem? (i := 159) (by decide +kernel))) (by decide +kernel)
theorem kw_1669 : (Jvm.Cond.code ({ cls := "FareLimitsModel", name := "isUnder", desc := "(II)Z" } : Jvm.MethodName) prog_14_method_95_code (2 : Nat) (Option.some Jvm.ClassFile.FieldType.boolean)) ∈ lw_all := lw_in (lw_s7 (List.mem_of_getElem? (i := 160) (by decide +kernel))) (by decide +kernel)
theorem kw_1670 : (Jvm.Cond.methodLink "FareLimitsLaw" (180 : Nat) ({ cls := "FareLimitsModel", name := "laid", desc := "(II)I" } : Jvm.MethodName)) ∈ lw_all := lw_in (lw_s7 (List.mem_of_getElem? (i := 161) (by decide +kernel))) (by decide +kernel)
theorem kw_1671 : (Jvm.Cond.instanceMethod ({ cls := "FareLimitsModel", name := "laid", desc := "(II)I" } : Jvm.MethodName)) ∈ lw_all := lw_in (lw_s7 (List.mem_of_getElem? (i := 162) (by decide +kernel))) (by decide +kernel)
theorem kw_1672 : (Jvm.Cond.selects "FareLimitsModel" ({ cls := "FareLimitsModel", name := "laid", desc := "(II)I" } : Jvm.MethodName) ({ cls := "FareLimitsModel", name := "laid", desc := "(II)I" } : Jvm.MethodName)) ∈ lw_all := lw_in (lw_s7 (List.mem_of_getElem? (i := 163) (by decide +kernel))) (by decide +kernel)
theorem kw_1673 : (Jvm.Cond.code ({ cls := "FareLimitsModel", name := "laid", desc := "(II)I" } : Jvm.MethodName) prog_14_method_99_code (4 : Nat) (Option.some Jvm.ClassFile.FieldType.int)) ∈ lw_all := lw_in (lw_s7 (List.mem_of_getElem? (i := 164) (by decide +kernel))) (by decide +kernel)
theorem kw_1674 : (Jvm.Cond.methodLink "FareLimitsLaw" (184 : Nat) ({ cls := "FareLimitsModel", name := "like", desc := "(II)I" } : Jvm.MethodName)) ∈ lw_all := lw_in (lw_s7 (List.mem_of_getElem? (i := 165) (by decide +kernel))) (by decide +kernel)
theorem kw_1675 : (Jvm.Cond.instanceMethod ({ cls := "FareLimitsModel", name := "like", desc := "(II)I" } : Jvm.MethodName)) ∈ lw_all := lw_in (lw_s7 (List.mem_of_getElem? (i := 166) (by decide +kernel))) (by decide +kernel)
theorem kw_1676 : (Jvm.Cond.selects "FareLimitsModel" ({ cls := "FareLimitsModel", name := "like", desc := "(II)I" } : Jvm.MethodName) ({ cls := "FareLimitsModel", name := "like", desc := "(II)I" } : Jvm.MethodName)) ∈ lw_all := lw_in (lw_s7 (List.mem_of_getElem? (i := 167) (by decide +kernel))) (by decide +kernel)
theorem kw_1677 : (Jvm.Cond.code ({ cls := "FareLimitsModel", name := "like", desc := "(II)I" } : Jvm.MethodName) prog_14_method_100_code (4 : Nat) (Option.some Jvm.ClassFile.FieldType.int)) ∈ lw_all := lw_in (lw_s7 (List.mem_of_getElem? (i := 168) (by decide +kernel))) (by decide +kernel)
theorem kw_1678 : (Jvm.Cond.methodLink "FareLimitsLaw" (188 : Nat) ({ cls := "FareLimitsModel", name := "list", desc := "(II)I" } : Jvm.MethodName)) ∈ lw_all := lw_in (lw_s7 (List.mem_of_getElem? (i := 169) (by decide +kernel))) (by decide +kernel)
theorem kw_1679 : (Jvm.Cond.instanceMethod ({ cls := "FareLimitsModel", name := "list", desc := "(II)I" } : Jvm.MethodName)) ∈ lw_all := lw_in (lw_s7 (List.mem_of_getElem? (i := 170) (by decide +kernel))) (by decide +kernel)
theorem kw_1680 : (Jvm.Cond.selects "FareLimitsModel" ({ cls := "FareLimitsModel", name := "list", desc := "(II)I" } : Jvm.MethodName) ({ cls := "FareLimitsModel", name := "list", desc := "(II)I" } : Jvm.MethodName)) ∈ lw_all := lw_in (lw_s7 (List.mem_of_getElem? (i := 171) (by decide +kernel))) (by decide +kernel)
theorem kw_1681 : (Jvm.Cond.code ({ cls := "FareLimitsModel", name := "list", desc := "(II)I" } : Jvm.MethodName) prog_14_method_101_code (4 : Nat) (Option.some Jvm.ClassFile.FieldType.int)) ∈ lw_all := lw_in (lw_s7 (List.mem_of_getElem? (i := 172) (by decide +kernel))) (by decide +kernel)
theorem kw_1682 : (Jvm.Cond.methodLink "FareLimitsLaw" (195 : Nat) ({ cls := "FareLimitsModel", name := "set", desc := "(IIJ)I" } : Jvm.MethodName)) ∈ lw_all := lw_in (lw_s7 (List.mem_of_getElem? (i := 173) (by decide +kernel))) (by decide +kernel)
theorem kw_1683 : (Jvm.Cond.instanceMethod ({ cls := "FareLimitsModel", name := "set", desc := "(IIJ)I" } : Jvm.MethodName)) ∈ lw_all := lw_in (lw_s7 (List.mem_of_getElem? (i := 174) (by decide +kernel))) (by decide +kernel)
theorem kw_1684 : (Jvm.Cond.selects "FareLimitsModel" ({ cls := "FareLimitsModel", name := "set", desc := "(IIJ)I" } : Jvm.MethodName) ({ cls := "FareLimitsModel", name := "set", desc := "(IIJ)I" } : Jvm.MethodName)) ∈ lw_all := lw_in (lw_s7 (List.mem_of_getElem? (i := 175) (by decide +kernel))) (by decide +kernel)
theorem kw_1685 : (Jvm.Cond.code ({ cls := "FareLimitsModel", name := "set", desc := "(IIJ)I" } : Jvm.MethodName) prog_14_method_102_code (5 : Nat) (Option.some Jvm.ClassFile.FieldType.int)) ∈ lw_all := lw_in (lw_s7 (List.mem_of_getElem? (i := 176) (by decide +kernel))) (by decide +kernel)
theorem kw_1686 : (Jvm.Cond.methodLink "FareLimitsLaw" (199 : Nat) ({ cls := "FareLimitsModel", name := "get", desc := "(II)J" } : Jvm.MethodName)) ∈ lw_all := lw_in (lw_s7 (List.mem_of_getElem? (i := 177) (by decide +kernel))) (by decide +kernel)
theorem kw_1687 : (Jvm.Cond.instanceMethod ({ cls := "FareLimitsModel", name := "get", desc := "(II)J" } : Jvm.MethodName)) ∈ lw_all := lw_in (lw_s7 (List.mem_of_getElem? (i := 178) (by decide +kernel))) (by decide +kernel)
theorem kw_1688 : (Jvm.Cond.selects "FareLimitsModel" ({ cls := "FareLimitsModel", name := "get", desc := "(II)J" } : Jvm.MethodName) ({ cls := "FareLimitsModel", name := "get", desc := "(II)J" } : Jvm.MethodName)) ∈ lw_all := lw_in (lw_s7 (List.mem_of_getElem? (i := 179) (by decide +kernel))) (by decide +kernel)
theorem kw_1689 : (Jvm.Cond.code ({ cls := "FareLimitsModel", name := "get", desc := "(II)J" } : Jvm.MethodName) prog_14_method_103_code (3 : Nat) (Option.some Jvm.ClassFile.FieldType.long)) ∈ lw_all := lw_in (lw_s7 (List.mem_of_getElem? (i := 180) (by decide +kernel))) (by decide +kernel)
theorem kw_1690 : (Jvm.Cond.methodLink "FareLimitsLaw" (203 : Nat) ({ cls := "FareLimitsModel", name := "judge", desc := "(III)I" } : Jvm.MethodName)) ∈ lw_all := lw_in (lw_s7 (List.mem_of_getElem? (i := 181) (by decide +kernel))) (by decide +kernel)
theorem kw_1691 : (Jvm.Cond.instanceMethod ({ cls := "FareLimitsModel", name := "judge", desc := "(III)I" } : Jvm.MethodName)) ∈ lw_all := lw_in (lw_s7 (List.mem_of_getElem? (i := 182) (by decide +kernel))) (by decide +kernel)
theorem kw_1692 : (Jvm.Cond.selects "FareLimitsModel" ({ cls := "FareLimitsModel", name := "judge", desc := "(III)I" } : Jvm.MethodName) ({ cls := "FareLimitsModel", name := "judge", desc := "(III)I" } : Jvm.MethodName)) ∈ lw_all := lw_in (lw_s7 (List.mem_of_getElem? (i := 183) (by decide +kernel))) (by decide +kernel)
theorem kw_1693 : (Jvm.Cond.code ({ cls := "FareLimitsModel", name := "judge", desc := "(III)I" } : Jvm.MethodName) prog_14_method_104_code (5 : Nat) (Option.some Jvm.ClassFile.FieldType.int)) ∈ lw_all := lw_in (lw_s7 (List.mem_of_getElem? (i := 184) (by decide +kernel))) (by decide +kernel)
theorem kw_1694 : (Jvm.Cond.methodLink "FareLimitsLaw" (207 : Nat) ({ cls := "FareLimitsModel", name := "image", desc := "()I" } : Jvm.MethodName)) ∈ lw_all := lw_in (lw_s7 (List.mem_of_getElem? (i := 185) (by decide +kernel))) (by decide +kernel)
theorem kw_1695 : (Jvm.Cond.instanceMethod ({ cls := "FareLimitsModel", name := "image", desc := "()I" } : Jvm.MethodName)) ∈ lw_all := lw_in (lw_s7 (List.mem_of_getElem? (i := 186) (by decide +kernel))) (by decide +kernel)
theorem kw_1696 : (Jvm.Cond.selects "FareLimitsModel" ({ cls := "FareLimitsModel", name := "image", desc := "()I" } : Jvm.MethodName) ({ cls := "FareLimitsModel", name := "image", desc := "()I" } : Jvm.MethodName)) ∈ lw_all := lw_in (lw_s7 (List.mem_of_getElem? (i := 187) (by decide +kernel))) (by decide +kernel)
theorem kw_1697 : (Jvm.Cond.code ({ cls := "FareLimitsModel", name := "image", desc := "()I" } : Jvm.MethodName) prog_14_method_105_code (1 : Nat) (Option.some Jvm.ClassFile.FieldType.int)) ∈ lw_all := lw_in (lw_s7 (List.mem_of_getElem? (i := 188) (by decide +kernel))) (by decide +kernel)
theorem kw_1698 : (Jvm.Cond.methodLink "FareLimitsLaw" (211 : Nat) ({ cls := "FareLimitsModel", name := "undo", desc := "()I" } : Jvm.MethodName)) ∈ lw_all := lw_in (lw_s7 (List.mem_of_getElem? (i := 189) (by decide +kernel))) (by decide +kernel)
theorem kw_1699 : (Jvm.Cond.instanceMethod ({ cls := "FareLimitsModel", name := "undo", desc := "()I" } : Jvm.MethodName)) ∈ lw_all := lw_in (lw_s7 (List.mem_of_getElem? (i := 190) (by decide +kernel))) (by decide +kernel)
theorem kw_1700 : (Jvm.Cond.selects "FareLimitsModel" ({ cls := "FareLimitsModel", name := "undo", desc := "()I" } : Jvm.MethodName) ({ cls := "FareLimitsModel", name := "undo", desc := "()I" } : Jvm.MethodName)) ∈ lw_all := lw_in (lw_s7 (List.mem_of_getElem? (i := 191) (by decide +kernel))) (by decide +kernel)
theorem kw_1701 : (Jvm.Cond.code ({ cls := "FareLimitsModel", name := "undo", desc := "()I" } : Jvm.MethodName) prog_14_method_106_code (1 : Nat) (Option.some Jvm.ClassFile.FieldType.int)) ∈ lw_all := lw_in (lw_s7 (List.mem_of_getElem? (i := 192) (by decide +kernel))) (by decide +kernel)
theorem kw_1702 : (Jvm.Cond.constantLong "FareLimitsLaw" (189 : Nat) (4294967295 : Int64)) ∈ lw_all := lw_in (lw_s7 (List.mem_of_getElem? (i := 193) (by decide +kernel))) (by decide +kernel)
theorem kw_1703 : (Jvm.Cond.sameMethod "java/lang/AbstractStringBuilder" "java/lang/AbstractStringBuilder" "setLength" "(I)V") ∈ lw_all := lw_in (lw_s7 (List.mem_of_getElem? (i := 194) (by decide +kernel))) (by decide +kernel)
theorem kw_1704 : (Jvm.Cond.sameMethod "java/lang/AbstractStringBuilder" "java/lang/AbstractStringBuilder" "ensureCapacityInternal" "(I)V") ∈ lw_all := lw_in (lw_s7 (List.mem_of_getElem? (i := 195) (by decide +kernel))) (by decide +kernel)
theorem kw_1705 : (Jvm.Cond.sameMethod "java/lang/AbstractStringBuilder" "java/lang/AbstractStringBuilder" "newCapacity" "(I)I") ∈ lw_all := lw_in (lw_s7 (List.mem_of_getElem? (i := 196) (by decide +kernel))) (by decide +kernel)
theorem kw_1706 : (Jvm.Cond.sameMethod "java/lang/AbstractStringBuilder" "java/lang/AbstractStringBuilder" "append" "(C)Ljava/lang/AbstractStringBuilder;") ∈ lw_all := lw_in (lw_s7 (List.mem_of_getElem? (i := 197) (by decide +kernel))) (by decide +kernel)
theorem kw_1707 : (Jvm.Cond.sameMethod "java/lang/AbstractStringBuilder" "java/lang/AbstractStringBuilder" "inflate" "()V") ∈ lw_all := lw_in (lw_s7 (List.mem_of_getElem? (i := 198) (by decide +kernel))) (by decide +kernel)
theorem kw_1708 : (Jvm.Cond.sameMethod "java/lang/AbstractStringBuilder" "java/lang/AbstractStringBuilder" "append" "(I)Ljava/lang/AbstractStringBuilder;") ∈ lw_all := lw_in (lw_s7 (List.mem_of_getElem? (i := 199) (by decide +kernel))) (by decide +kernel)
theorem kw_1709 : (Jvm.Cond.sameMethod "java/lang/AbstractStringBuilder" "java/lang/AbstractStringBuilder" "length" "()I") ∈ lw_all := lw_in (lw_s7 (List.mem_of_getElem? (i := 200) (by decide +kernel))) (by decide +kernel)
theorem kw_1710 : (Jvm.Cond.sameMethod "java/lang/AbstractStringBuilder" "java/lang/AbstractStringBuilder" "charAt" "(I)C") ∈ lw_all := lw_in (lw_s7 (List.mem_of_getElem? (i := 201) (by decide +kernel))) (by decide +kernel)
theorem kw_1711 : (Jvm.Cond.fieldLink "FareLimits" (120 : Nat) "FareLimits$Kind" "number" "I") ∈ lw_all := lw_in (lw_s7 (List.mem_of_getElem? (i := 202) (by decide +kernel))) (by decide +kernel)
theorem kw_1712 : (Jvm.Cond.fieldLink "FareLimits$Plan" (67 : Nat) "FareLimits$Kind" "quartersKept" "I") ∈ lw_all := lw_in (lw_s7 (List.mem_of_getElem? (i := 203) (by decide +kernel))) (by decide +kernel)
theorem kw_1713 : (Jvm.Cond.fieldLink "FareLimits$Kind" (37 : Nat) "FareLimits$Kind" "number" "I") ∈ lw_all := lw_in (lw_s7 (List.mem_of_getElem? (i := 204) (by decide +kernel))) (by decide +kernel)
theorem kw_1714 : (Jvm.Cond.fieldLink "FareLimits$Kind" (41 : Nat) "FareLimits$Kind" "above" "I") ∈ lw_all := lw_in (lw_s7 (List.mem_of_getElem? (i := 205) (by decide +kernel))) (by decide +kernel)
theorem kt_1715 : (Jvm.Cond.laysStatic "FareLimits$Kind" "OPEN" "LFareLimits$Kind;") ∈ lw_tbl := lw_s7 (List.mem_of_getElem? (i := 206) (by decide +kernel))
theorem kt_1716 : (Jvm.Cond.laysStatic "FareLimits$Kind" "SAVER" "LFareLimits$Kind;") ∈ lw_tbl := lw_s7 (List.mem_of_getElem? (i := 207) (by decide +kernel))
theorem kt_1717 : (Jvm.Cond.laysStatic "FareLimits$Kind" "GROUP" "LFareLimits$Kind;") ∈ lw_tbl := lw_s7 (List.mem_of_getElem? (i := 208) (by decide +kernel))
end
section
-- the abstract memory: cells by their numbers; 0 .. 7 stand for what was there before (statics), number k from 9 on is the cell at base + (k - 9)
abbrev mC : Type := (Nat × vp_A) ⊕ (Nat × List Value)
abbrev mM : Type := List mC
-- what a world is fixed by: classes and their slots, array classes, the statics' addresses, the value of an opaque static, the base
abbrev mW : Type := va_G × (Nat → ClassId) × (Nat → Nat) × Value × Nat
def m_f (w : mW) (k : Nat) : Nat := if k < 9 then w.2.2.1 k else w.2.2.2.2 + (k - 9)
def m_v (f : Nat → Nat) : Value → Value
  | .ref k => .ref (f k)
  | .retAddr _ => if f 8 = 0 then .null else .ref (f 8 - 1)
  | v => v
def m_d (f : Nat → Nat) (a : vp_A) : vp_A := match a.2 with
  | .inr (.inr (.inr (.inr g))) => (a.1, .inr (.inr (.inr (.inr (fun j => (g j).map f)))))
  | _ => a
-- the kinds of arrays, by number
def tyl : List FieldType := [.int, .long, .double, .boolean, .byte, .object "FareLimits$Fare", .object "FareLimits$Route", .object "FareLimits$Tray", .array .double, .array .long]
def m_at (w : mW) (k : Nat) (c : mC) (H : Heap) : Prop := match c with
  | .inl (t, a) => H[m_f w k]? = some (vp_cell (w.2.1 t) (m_d (m_f w) a))
  | .inr (ci, fs) => ∃ r : vw_C, vwCl[ci]? = some r ∧ t_OB (m_f w k) (w.1.1 ci) r.2.2 (w.1.2 ci) H (vp_V (fs.map (m_v (m_f w))))
def m_no : mC := .inr (99, [])
def m_At (w : mW) (M : mM) (H : Heap) : Prop := H.size + 9 = w.2.2.2.2 + M.length ∧ 9 ≤ M.length ∧ (∀ k, k < 9 → M[k]? = some m_no) ∧ ∀ k c, 9 ≤ k → M[k]? = some c → m_at w k c H
theorem m_v_cat (f : Nat → Nat) (v : Value) : (m_v f v).category = v.category := by
  cases v <;> first | rfl | (simp only [m_v]; split <;> rfl)
theorem m_f_hi {w : mW} {k : Nat} (h : 9 ≤ k) : m_f w k = w.2.2.2.2 + (k - 9) := if_neg (Nat.not_lt.mpr h)
theorem m_f_inj {w : mW} {k j : Nat} (hk : 9 ≤ k) (hj : 9 ≤ j) (h : m_f w k = m_f w j) : k = j := by
  rw [m_f_hi hk, m_f_hi hj] at h
  omega
theorem m_at.kept {w : mW} {k : Nat} {c : mC} {H H1 : Heap} (h : m_at w k c H) (hq : H1[m_f w k]? = H[m_f w k]?) : m_at w k c H1 := by
  cases c with
  | inl x => exact hq.trans h
  | inr o =>
    obtain ⟨r, h1, h2⟩ := h
    exact ⟨r, h1, h2.kept hq⟩
theorem m_At.hi {w : mW} {M : mM} {H : Heap} (h : m_At w M H) {k : Nat} {c : mC} (hk : M[k]? = some c) (hc : c ≠ m_no) : 9 ≤ k := by
  rcases Nat.lt_or_ge k 9 with q | q
  · exact absurd (Option.some.inj (hk.symm.trans (h.2.2.1 k q))) hc
  · exact q
theorem m_At.lt {w : mW} {M : mM} {H : Heap} (h : m_At w M H) {k : Nat} {c : mC} (h8 : 9 ≤ k) (hk : M[k]? = some c) : m_f w k < H.size := by
  have h1 : k < M.length := (List.getElem?_eq_some_iff.mp hk).1
  have h2 := h.1
  rw [m_f_hi h8]
  omega
/-- a cell written -/
theorem m_At.set {w : mW} {M : mM} {H H1 : Heap} (h : m_At w M H) {k : Nat} {c0 c : mC} (h8 : 9 ≤ k) (hk : M[k]? = some c0) (he : m_at w k c H1) (hz : H1.size = H.size) (oq : ∀ q : Nat, q ≠ m_f w k → H1[q]? = H[q]?) : m_At w (M.set k c) H1 := by
  refine ⟨by rw [List.length_set, hz]; exact h.1, by rw [List.length_set]; exact h.2.1, fun j hj => ?_, fun j d hj hd => ?_⟩
  · rw [List.getElem?_set_ne (by omega)]
    exact h.2.2.1 j hj
  · by_cases hjk : k = j
    · subst hjk
      rw [List.getElem?_set_self (List.getElem?_eq_some_iff.mp hk).1] at hd
      cases hd
      exact he
    · rw [List.getElem?_set_ne hjk] at hd
      exact (h.2.2.2 j d hj hd).kept (oq _ (fun z => hjk (m_f_inj h8 hj z.symm)))
/-- a cell made -/
theorem m_At.push {w : mW} {M : mM} {H H1 : Heap} (h : m_At w M H) {c : mC} (he : m_at w M.length c H1) (hz : H1.size = H.size + 1) (oq : ∀ q : Nat, q < H.size → H1[q]? = H[q]?) : m_At w (M ++ [c]) H1 := by
  refine ⟨by rw [hz]; simp only [List.length_append, List.length_singleton]; have := h.1; omega, by simp only [List.length_append, List.length_singleton]; have := h.2.1; omega, fun j hj => ?_, fun j d hj hd => ?_⟩
  · rw [List.getElem?_append_left (by have := h.2.1; omega)]
    exact h.2.2.1 j hj
  · rcases Nat.lt_or_ge j M.length with q | q
    · rw [List.getElem?_append_left q] at hd
      exact (h.2.2.2 j d hj hd).kept (oq _ (h.lt hj hd))
    · rw [List.getElem?_append_right q] at hd
      have h1 := (List.getElem?_eq_some_iff.mp hd).1
      simp only [List.length_singleton] at h1
      have h2 : j = M.length := by omega
      subst h2
      rw [Nat.sub_self] at hd
      cases hd
      exact he
theorem m_At.new {w : mW} {M : mM} {H : Heap} (h : m_At w M H) : m_f w M.length = H.size := by
  rw [m_f_hi h.2.1]
  have := h.1
  have := h.2.1
  omega
-- static facts
def kNm : List String := ["FARE", "OPEN", "SAVER", "GROUP"]
def kF : List (String × String × String × List Int32) := [("FareLimits$Kind", "number", "I", [0, 1, 2, 3]), ("FareLimits$Kind", "above", "I", [-1, 0, 0, 2]), ("FareLimits$Kind", "quartersKept", "I", [2, 0, 4, 3])]
def mostF : Nat → Int32 := fun j => if j = 0 then 30 else if j = 3 then 9999 else 50
def dgO : Nat → Int32 := fun j => nI (48 + j % 10)
def dgT : Nat → Int32 := fun j => nI (48 + j / 10)
def m_nst (U : State) : Prop :=
  va_Nw (.methodLinkNest "FareLimits$Plan" 23 ⟨"FareLimits$Network", "<init>", "()V"⟩ "FareLimits") U ∧ va_Nw (.methodLinkNest "FareLimits$Plan" 32 ⟨"FareLimits$Fare", "<init>", "()V"⟩ "FareLimits") U ∧ va_Nw (.methodLinkNest "FareLimits" 44 ⟨"FareLimits$Tape", "<init>", "()V"⟩ "FareLimits") U ∧ va_Nw (.methodLinkNest "FareLimits" 71 ⟨"FareLimits$Tray", "<init>", "()V"⟩ "FareLimits") U ∧
  va_Nw (.methodLinkNest "FareLimits$Worths" 55 ⟨"FareLimits", "phaseOf", "(I)I"⟩ "FareLimits") U ∧ va_Nw (.methodLinkNest "FareLimits$Whole" 33 ⟨"FareLimits", "phaseOf", "(I)I"⟩ "FareLimits") U ∧ va_Nw (.methodLinkNest "FareLimits$Chances" 42 ⟨"FareLimits", "phaseOf", "(I)I"⟩ "FareLimits") U ∧ va_Nw (.methodLinkNest "FareLimits$Tape" 32 ⟨"FareLimits", "within", "(II)Z"⟩ "FareLimits") U ∧ va_Nw (.methodLinkNest "FareLimits$Day" 79 ⟨"FareLimits", "phaseOf", "(I)I"⟩ "FareLimits") U ∧
  va_Nw (.fieldLinkNest "FareLimits$Kind" 47 "FareLimits" "KINDS" "[LFareLimits$Kind;" "FareLimits") U
theorem m_nst.warm {s U : State} (hW : s.WarmedH U.vm) (h : m_nst s) : m_nst U := by
  obtain ⟨a1, a2, a3, a4, a5, a6, a7, a8, a9, b1⟩ := h
  exact ⟨a1.warmM hW, a2.warmM hW, a3.warmM hW, a4.warmM hW, a5.warmM hW, a6.warmM hW, a7.warmM hW, a8.warmM hW, a9.warmM hW, b1.warmF hW⟩
/-- classes, array classes, what arrays are over -/
def m_K (w : mW) (U : State) : Prop := (∀ (c : Nat) (q : vw_C), vwCl[c]? = some q → u_Kn U q.1 q.2.1 q.2.2 (w.1.1 c) (w.1.2 c)) ∧ (∀ (t : Nat) (ty : FieldType), tyl[t]? = some ty → ArrOfT U (w.2.1 t) ty ∧ va_RA U (w.2.1 t) ty) ∧ m_nst U ∧ (va_AO "FareLimits$Fare" U ∧ va_AO "FareLimits$Route" U ∧ va_AO "FareLimits$Tray" U) ∧ (w.2.2.2.1 = .null ∨ ∃ a, w.2.2.2.1 = .ref a)
theorem m_K.warm {w : mW} {s U : State} (hW : s.WarmedH U.vm) (h : m_K w s) : m_K w U := by
  obtain ⟨h1, h2, h3, h4, h5⟩ := h
  have hvm := hW.alike
  exact ⟨fun c q hq => u_Kn_moved hvm (h1 c q hq), fun t ty ht => ⟨arrOfT_moved hvm (h2 t ty ht).1, (h2 t ty ht).2.moved hvm⟩, h3.warm hW, ⟨h4.1.moved hvm, h4.2.1.moved hvm, h4.2.2.moved hvm⟩, h5⟩
def m_St (w : mW) (U : State) (H : Heap) : Prop :=
  va_En "FareLimits$Kind" "LFareLimits$Kind;" kNm kF w.2.2.1 (fun q => w.2.2.2.2 ≤ q) U H ∧
  va_Z "FareLimits" "KINDS" "[LFareLimits$Kind;" (.ref (w.2.2.1 4)) (fun q => w.2.2.2.2 ≤ q) U H ∧ va_T (.object "FareLimits$Kind") (w.2.2.1 4) 4 (fun j => .ref (w.2.2.1 j)) (fun q => w.2.2.2.2 ≤ q) U H ∧
  va_Z "FareLimits" "MOST_OF_A_RULE" "[I" (.ref (w.2.2.1 5)) (fun q => w.2.2.2.2 ≤ q) U H ∧ va_T .int (w.2.2.1 5) 4 (fun j => .int (mostF j)) (fun q => w.2.2.2.2 ≤ q) U H ∧
  va_Z "java/lang/String" "COMPACT_STRINGS" "Z" (.int 1) (fun q => w.2.2.2.2 ≤ q) U H ∧
  va_Z "java/lang/Integer" "DigitOnes" "[B" (.ref (w.2.2.1 6)) (fun q => w.2.2.2.2 ≤ q) U H ∧ va_T .byte (w.2.2.1 6) 100 (fun j => .int (dgO j)) (fun q => w.2.2.2.2 ≤ q) U H ∧
  va_Z "java/lang/Integer" "DigitTens" "[B" (.ref (w.2.2.1 7)) (fun q => w.2.2.2.2 ≤ q) U H ∧ va_T .byte (w.2.2.1 7) 100 (fun j => .int (dgT j)) (fun q => w.2.2.2.2 ≤ q) U H ∧
  va_Z "jdk/internal/util/Preconditions" "SIOOBE_FORMATTER" "Ljava/util/function/BiFunction;" (m_v (m_f w) (.retAddr 0)) (fun q => w.2.2.2.2 ≤ q) U H
theorem m_St.on {w : mW} {s U : State} {H H1 : Heap} (hvm : s.vm.Alike U.vm) (hq : ∀ a : Nat, a < H.size → ¬ (w.2.2.2.2 ≤ a) → H1[a]? = H[a]?) (h : m_St w s H) : m_St w U H1 := by
  obtain ⟨h1, h2, h3, h4, h5, h6, h7, h8, h9, h10, h11⟩ := h
  exact ⟨(h1.kept hq).moved hvm, (h2.kept hq).moved hvm, (h3.kept hq).moved hvm, (h4.kept hq).moved hvm, (h5.kept hq).moved hvm, (h6.kept hq).moved hvm, (h7.kept hq).moved hvm, (h8.kept hq).moved hvm, (h9.kept hq).moved hvm, (h10.kept hq).moved hvm, (h11.kept hq).moved hvm⟩
/-- what every method finds at its start, and hands on -/
def m_In (w : mW) (M : mM) (U : State) : Prop := m_K w U ∧ m_St w U U.heap ∧ m_At w M U.heap
theorem m_In.base {w : mW} {M : mM} {U : State} (h : m_In w M U) : w.2.2.2.2 ≤ U.heap.size := by
  have h1 := h.2.2.1
  have h2 := h.2.2.2.1
  omega
-- a frame of the walk: its machine, its place, what it is to come to, its world
abbrev mX : Type := (Program × Launch × Env × Room × State × MethodId) × (Array Value × List Frame × Method × Code) × (State → Prop) × mW
abbrev xs (X : mX) : State := X.1.2.2.2.2.1
abbrev xR (X : mX) : Room := X.1.2.2.2.1
abbrev xm (X : mX) : MethodId := X.1.2.2.2.2.2
abbrev xw (X : mX) : mW := X.2.2.2
abbrev xf (X : mX) : Nat → Nat := m_f X.2.2.2
abbrev xA (X : mX) : Nat → Prop := fun q => X.2.2.2.2.2.2.2 ≤ q
def CX (X : mX) (own nm : String) (cc : ByteArray) (nL : Nat) (ret : Option FieldType) : Prop :=
  X.1.1.tables.exec = Jvm.exec ∧ X.2.1.2.2.2.code = cc ∧ X.2.1.2.2.2.maxLocals = nL ∧ (xs X).vm.findClass own = some (xm X).cls ∧ (∀ w ∈ lw_all, w.before X.2.1.1 (xs X) = true) ∧ X.2.1.2.2.1.locks = false ∧ m_K (xw X) (xs X) ∧ m_St (xw X) (xs X) (xs X).heap ∧ (xw X).2.2.2.2 ≤ (xs X).heap.size ∧ X.2.1.2.2.1.sig.returnType = ret ∧ X.2.1.2.2.1.name = nm
def WX (X : mX) (H : Heap) (locs : List Loc) (kc ks : Nat) (g : JFrame) : Prop := W X.1.1 X.1.2.1 X.1.2.2.1 X.1.2.2.2.1 X.1.2.2.2.2.1 X.1.2.2.2.2.2 X.2.1.1 X.2.1.2.1 X.2.1.2.2.1 X.2.1.2.2.2 H locs kc ks X.2.2.1 g
def EV (X : mX) (nL pc : Nat) (l : List (Nat × Value)) (st : List Value) (kc ks : Nat) (M : mM) : Prop :=
  ∀ (H : Heap) (locs : List Loc) (ls : Array Slot), lv_has ls nL (l.map fun q => (q.1, m_v (xf X) q.2)) → m_At (xw X) M H → va_S (xA X) (xs X).heap H locs → WX X H locs kc ks (F0 (xm X) pc ls (st.map (m_v (xf X))))
theorem lv_map {f : Nat → Nat} {l : List (Nat × Value)} {k i : Nat} {v : Value} (h : l[k]? = some (i, v)) : (l.map fun q => (q.1, m_v f q.2))[k]? = some (i, m_v f v) := by
  rw [List.getElem?_map, h]
  rfl
theorem lv_map1 {f : Nat → Nat} {l l' : List (Nat × Value)} {i : Nat} {v : Value} (h : (i, v) :: l.filter (fun q => !(q.1 == i) && !(q.1 + 1 == i && q.2.category == 2)) = l') : (i, m_v f v) :: (l.map fun q => (q.1, m_v f q.2)).filter (fun q => !(q.1 == i) && !(q.1 + 1 == i && q.2.category == 2)) = l'.map fun q => (q.1, m_v f q.2) := by
  subst h
  rw [List.map_cons, List.filter_map]
  refine congrArg (List.cons _) (congrArg (List.map _) ?_)
  congr 1
  funext q
  simp [m_v_cat]
theorem lv_map2 {f : Nat → Nat} {l l' : List (Nat × Value)} {i : Nat} {v : Value} (h : (i, v) :: l.filter (fun q => !(q.1 == i) && (!(q.1 == i + 1) && !(q.1 + 1 == i && q.2.category == 2))) = l') : (i, m_v f v) :: (l.map fun q => (q.1, m_v f q.2)).filter (fun q => !(q.1 == i) && (!(q.1 == i + 1) && !(q.1 + 1 == i && q.2.category == 2))) = l'.map fun q => (q.1, m_v f q.2) := by
  subst h
  rw [List.map_cons, List.filter_map]
  refine congrArg (List.cons _) (congrArg (List.map _) ?_)
  congr 1
  funext q
  simp [m_v_cat]
end
section
section EVR
variable {X : mX} {own nm : String} {cc : ByteArray} {nL pc kc ks : Nat} {ret : Option FieldType} {l l' : List (Nat × Value)} {st : List Value} {M : mM}
theorem ev_iconst (C : CX X own nm cc nL ret) {n : Int} {v : Int32} (d : decode cc pc = .ok (.iconst n, 1)) (hv : Int32.ofInt n = v) (k : EV X nL (pc + 1) l (.int v :: st) kc ks M) : EV X nL pc l (st) kc ks M := fun H locs ls hl hM hS => lv_iconst C.1 C.2.1 d hv (k H locs ls hl hM hS)
theorem ev_bipush (C : CX X own nm cc nL ret) {n : Int} {v : Int32} (d : decode cc pc = .ok (.bipush n, 2)) (hv : (Int8.ofInt n).toInt32 = v) (k : EV X nL (pc + 2) l (.int v :: st) kc ks M) : EV X nL pc l (st) kc ks M := fun H locs ls hl hM hS => lv_bipush C.1 C.2.1 d hv (k H locs ls hl hM hS)
theorem ev_sipush (C : CX X own nm cc nL ret) {n : Int} {v : Int32} (d : decode cc pc = .ok (.sipush n, 3)) (hv : (Int16.ofInt n).toInt32 = v) (k : EV X nL (pc + 3) l (.int v :: st) kc ks M) : EV X nL pc l (st) kc ks M := fun H locs ls hl hM hS => lv_sipush C.1 C.2.1 d hv (k H locs ls hl hM hS)
theorem ev_lconst (C : CX X own nm cc nL ret) {n : Fin 2} {v : Int64} (d : decode cc pc = .ok (.lconst n, 1)) (hv : Int64.ofNat (n : Nat) = v) (k : EV X nL (pc + 1) l (.long v :: st) kc ks M) : EV X nL pc l (st) kc ks M := fun H locs ls hl hM hS => lv_lconst C.1 C.2.1 d hv (k H locs ls hl hM hS)
theorem ev_fconst0 (C : CX X own nm cc nL ret)  (d : decode cc pc = .ok (.fconst 0, 1))  (k : EV X nL (pc + 1) l (.float FP.fconst0 :: st) kc ks M) : EV X nL pc l (st) kc ks M := fun H locs ls hl hM hS => lv_fconst0 C.1 C.2.1 d (k H locs ls hl hM hS)
theorem ev_dconst0 (C : CX X own nm cc nL ret)  (d : decode cc pc = .ok (.dconst 0, 1))  (k : EV X nL (pc + 1) l (.double FP.dconst0 :: st) kc ks M) : EV X nL pc l (st) kc ks M := fun H locs ls hl hM hS => lv_dconst0 C.1 C.2.1 d (k H locs ls hl hM hS)
theorem ev_dconst1 (C : CX X own nm cc nL ret)  (d : decode cc pc = .ok (.dconst 1, 1))  (k : EV X nL (pc + 1) l (.double FP.dconst1 :: st) kc ks M) : EV X nL pc l (st) kc ks M := fun H locs ls hl hM hS => lv_dconst1 C.1 C.2.1 d (k H locs ls hl hM hS)
theorem ev_ldc (C : CX X own nm cc nL ret) {idx : Nat} {v : Int32} (d : decode cc pc = .ok (.ldc idx, 2)) (hc : Jvm.Cond.constant own idx v ∈ lw_all) (k : EV X nL (pc + 2) l (.int v :: st) kc ks M) : EV X nL pc l (st) kc ks M := fun H locs ls hl hM hS => lv_ldc C.1 C.2.1 C.2.2.2.1 (C.2.2.2.2.1 _ hc) d (k H locs ls hl hM hS)
theorem ev_ldc2 (C : CX X own nm cc nL ret) {idx : Nat} {v : Int64} (d : decode cc pc = .ok (.ldc2_w idx, 3)) (hc : Jvm.Cond.constantLong own idx v ∈ lw_all) (k : EV X nL (pc + 3) l (.long v :: st) kc ks M) : EV X nL pc l (st) kc ks M := fun H locs ls hl hM hS => lv_ldc2 C.1 C.2.1 C.2.2.2.1 (C.2.2.2.2.1 _ hc) d (k H locs ls hl hM hS)
theorem ev_ldc2d (C : CX X own nm cc nL ret) {idx : Nat} {v : UInt64} (d : decode cc pc = .ok (.ldc2_w idx, 3)) (hc : Jvm.Cond.constantDouble own idx v ∈ lw_all) (k : EV X nL (pc + 3) l (.double v :: st) kc ks M) : EV X nL pc l (st) kc ks M := fun H locs ls hl hM hS => lv_ldc2d C.1 C.2.1 C.2.2.2.1 (C.2.2.2.2.1 _ hc) d (k H locs ls hl hM hS)
theorem ev_iload_n (C : CX X own nm cc nL ret) {j : Fin 4} {q i : Nat} {x : Int32} (d : decode cc pc = .ok (.iload_n j, 1)) (hi : (j : Nat) = i) (hk : l[q]? = some (i, .int x)) (k : EV X nL (pc + 1) l (.int x :: st) kc ks M) : EV X nL pc l (st) kc ks M := fun H locs ls hl hM hS => lv_iload_n C.1 C.2.1 d hi (lv_at hl q (lv_map hk)) (k H locs ls hl hM hS)
theorem ev_iload (C : CX X own nm cc nL ret) {q i : Nat} {x : Int32} (d : decode cc pc = .ok (.iload i, 2)) (hk : l[q]? = some (i, .int x)) (k : EV X nL (pc + 2) l (.int x :: st) kc ks M) : EV X nL pc l (st) kc ks M := fun H locs ls hl hM hS => lv_iload C.1 C.2.1 d (lv_at hl q (lv_map hk)) (k H locs ls hl hM hS)
theorem ev_istore_n (C : CX X own nm cc nL ret) {j : Fin 4} {i : Nat} {x : Int32} (d : decode cc pc = .ok (.istore_n j, 1)) (hi : (j : Nat) = i) (hn : i < nL) (hl2 : (i, Value.int x) :: l.filter (fun q => !(q.1 == i) && !(q.1 + 1 == i && q.2.category == 2)) = l') (k : EV X nL (pc + 1) l' st kc ks M) : EV X nL pc l (.int x :: st) kc ks M := fun H locs ls hl hM hS => lv_istore_n C.1 C.2.1 d hi hl hn (lv_map1 hl2) (fun ls2 hl3 => k H locs ls2 hl3 hM hS)
theorem ev_istore (C : CX X own nm cc nL ret) {i : Nat} {x : Int32} (d : decode cc pc = .ok (.istore i, 2)) (hn : i < nL) (hl2 : (i, Value.int x) :: l.filter (fun q => !(q.1 == i) && !(q.1 + 1 == i && q.2.category == 2)) = l') (k : EV X nL (pc + 2) l' st kc ks M) : EV X nL pc l (.int x :: st) kc ks M := fun H locs ls hl hM hS => lv_istore C.1 C.2.1 d hl hn (lv_map1 hl2) (fun ls2 hl3 => k H locs ls2 hl3 hM hS)
theorem ev_lload_n (C : CX X own nm cc nL ret) {j : Fin 4} {q i : Nat} {x : Int64} (d : decode cc pc = .ok (.lload_n j, 1)) (hi : (j : Nat) = i) (hk : l[q]? = some (i, .long x)) (k : EV X nL (pc + 1) l (.long x :: st) kc ks M) : EV X nL pc l (st) kc ks M := fun H locs ls hl hM hS => lv_lload_n C.1 C.2.1 d hi (lv_at hl q (lv_map hk)) (k H locs ls hl hM hS)
theorem ev_lload (C : CX X own nm cc nL ret) {q i : Nat} {x : Int64} (d : decode cc pc = .ok (.lload i, 2)) (hk : l[q]? = some (i, .long x)) (k : EV X nL (pc + 2) l (.long x :: st) kc ks M) : EV X nL pc l (st) kc ks M := fun H locs ls hl hM hS => lv_lload C.1 C.2.1 d (lv_at hl q (lv_map hk)) (k H locs ls hl hM hS)
theorem ev_lstore_n (C : CX X own nm cc nL ret) {j : Fin 4} {i : Nat} {x : Int64} (d : decode cc pc = .ok (.lstore_n j, 1)) (hi : (j : Nat) = i) (hn : i + 1 < nL) (hl2 : (i, Value.long x) :: l.filter (fun q => !(q.1 == i) && (!(q.1 == i + 1) && !(q.1 + 1 == i && q.2.category == 2))) = l') (k : EV X nL (pc + 1) l' st kc ks M) : EV X nL pc l (.long x :: st) kc ks M := fun H locs ls hl hM hS => lv_lstore_n C.1 C.2.1 d hi hl hn (lv_map2 hl2) (fun ls2 hl3 => k H locs ls2 hl3 hM hS)
theorem ev_lstore (C : CX X own nm cc nL ret) {i : Nat} {x : Int64} (d : decode cc pc = .ok (.lstore i, 2)) (hn : i + 1 < nL) (hl2 : (i, Value.long x) :: l.filter (fun q => !(q.1 == i) && (!(q.1 == i + 1) && !(q.1 + 1 == i && q.2.category == 2))) = l') (k : EV X nL (pc + 2) l' st kc ks M) : EV X nL pc l (.long x :: st) kc ks M := fun H locs ls hl hM hS => lv_lstore C.1 C.2.1 d hl hn (lv_map2 hl2) (fun ls2 hl3 => k H locs ls2 hl3 hM hS)
theorem ev_fload_n (C : CX X own nm cc nL ret) {j : Fin 4} {q i : Nat} {x : UInt32} (d : decode cc pc = .ok (.fload_n j, 1)) (hi : (j : Nat) = i) (hk : l[q]? = some (i, .float x)) (k : EV X nL (pc + 1) l (.float x :: st) kc ks M) : EV X nL pc l (st) kc ks M := fun H locs ls hl hM hS => lv_fload_n C.1 C.2.1 d hi (lv_at hl q (lv_map hk)) (k H locs ls hl hM hS)
theorem ev_fload (C : CX X own nm cc nL ret) {q i : Nat} {x : UInt32} (d : decode cc pc = .ok (.fload i, 2)) (hk : l[q]? = some (i, .float x)) (k : EV X nL (pc + 2) l (.float x :: st) kc ks M) : EV X nL pc l (st) kc ks M := fun H locs ls hl hM hS => lv_fload C.1 C.2.1 d (lv_at hl q (lv_map hk)) (k H locs ls hl hM hS)
theorem ev_fstore_n (C : CX X own nm cc nL ret) {j : Fin 4} {i : Nat} {x : UInt32} (d : decode cc pc = .ok (.fstore_n j, 1)) (hi : (j : Nat) = i) (hn : i < nL) (hl2 : (i, Value.float x) :: l.filter (fun q => !(q.1 == i) && !(q.1 + 1 == i && q.2.category == 2)) = l') (k : EV X nL (pc + 1) l' st kc ks M) : EV X nL pc l (.float x :: st) kc ks M := fun H locs ls hl hM hS => lv_fstore_n C.1 C.2.1 d hi hl hn (lv_map1 hl2) (fun ls2 hl3 => k H locs ls2 hl3 hM hS)
theorem ev_fstore (C : CX X own nm cc nL ret) {i : Nat} {x : UInt32} (d : decode cc pc = .ok (.fstore i, 2)) (hn : i < nL) (hl2 : (i, Value.float x) :: l.filter (fun q => !(q.1 == i) && !(q.1 + 1 == i && q.2.category == 2)) = l') (k : EV X nL (pc + 2) l' st kc ks M) : EV X nL pc l (.float x :: st) kc ks M := fun H locs ls hl hM hS => lv_fstore C.1 C.2.1 d hl hn (lv_map1 hl2) (fun ls2 hl3 => k H locs ls2 hl3 hM hS)
theorem ev_dload_n (C : CX X own nm cc nL ret) {j : Fin 4} {q i : Nat} {x : UInt64} (d : decode cc pc = .ok (.dload_n j, 1)) (hi : (j : Nat) = i) (hk : l[q]? = some (i, .double x)) (k : EV X nL (pc + 1) l (.double x :: st) kc ks M) : EV X nL pc l (st) kc ks M := fun H locs ls hl hM hS => lv_dload_n C.1 C.2.1 d hi (lv_at hl q (lv_map hk)) (k H locs ls hl hM hS)
theorem ev_dload (C : CX X own nm cc nL ret) {q i : Nat} {x : UInt64} (d : decode cc pc = .ok (.dload i, 2)) (hk : l[q]? = some (i, .double x)) (k : EV X nL (pc + 2) l (.double x :: st) kc ks M) : EV X nL pc l (st) kc ks M := fun H locs ls hl hM hS => lv_dload C.1 C.2.1 d (lv_at hl q (lv_map hk)) (k H locs ls hl hM hS)
theorem ev_dstore_n (C : CX X own nm cc nL ret) {j : Fin 4} {i : Nat} {x : UInt64} (d : decode cc pc = .ok (.dstore_n j, 1)) (hi : (j : Nat) = i) (hn : i + 1 < nL) (hl2 : (i, Value.double x) :: l.filter (fun q => !(q.1 == i) && (!(q.1 == i + 1) && !(q.1 + 1 == i && q.2.category == 2))) = l') (k : EV X nL (pc + 1) l' st kc ks M) : EV X nL pc l (.double x :: st) kc ks M := fun H locs ls hl hM hS => lv_dstore_n C.1 C.2.1 d hi hl hn (lv_map2 hl2) (fun ls2 hl3 => k H locs ls2 hl3 hM hS)
theorem ev_dstore (C : CX X own nm cc nL ret) {i : Nat} {x : UInt64} (d : decode cc pc = .ok (.dstore i, 2)) (hn : i + 1 < nL) (hl2 : (i, Value.double x) :: l.filter (fun q => !(q.1 == i) && (!(q.1 == i + 1) && !(q.1 + 1 == i && q.2.category == 2))) = l') (k : EV X nL (pc + 2) l' st kc ks M) : EV X nL pc l (.double x :: st) kc ks M := fun H locs ls hl hM hS => lv_dstore C.1 C.2.1 d hl hn (lv_map2 hl2) (fun ls2 hl3 => k H locs ls2 hl3 hM hS)
theorem ev_aload_n (C : CX X own nm cc nL ret) {j : Fin 4} {q i : Nat} {x : Nat} (d : decode cc pc = .ok (.aload_n j, 1)) (hi : (j : Nat) = i) (hk : l[q]? = some (i, .ref x)) (k : EV X nL (pc + 1) l (.ref x :: st) kc ks M) : EV X nL pc l (st) kc ks M := fun H locs ls hl hM hS => lv_aload_n C.1 C.2.1 d hi (lv_at hl q (lv_map hk)) (k H locs ls hl hM hS)
theorem ev_aload (C : CX X own nm cc nL ret) {q i : Nat} {x : Nat} (d : decode cc pc = .ok (.aload i, 2)) (hk : l[q]? = some (i, .ref x)) (k : EV X nL (pc + 2) l (.ref x :: st) kc ks M) : EV X nL pc l (st) kc ks M := fun H locs ls hl hM hS => lv_aload C.1 C.2.1 d (lv_at hl q (lv_map hk)) (k H locs ls hl hM hS)
theorem ev_astore_n (C : CX X own nm cc nL ret) {j : Fin 4} {i : Nat} {x : Nat} (d : decode cc pc = .ok (.astore_n j, 1)) (hi : (j : Nat) = i) (hn : i < nL) (hl2 : (i, Value.ref x) :: l.filter (fun q => !(q.1 == i) && !(q.1 + 1 == i && q.2.category == 2)) = l') (k : EV X nL (pc + 1) l' st kc ks M) : EV X nL pc l (.ref x :: st) kc ks M := fun H locs ls hl hM hS => lv_astore_n C.1 C.2.1 d hi hl hn (lv_map1 hl2) (fun ls2 hl3 => k H locs ls2 hl3 hM hS)
theorem ev_astore (C : CX X own nm cc nL ret) {i : Nat} {x : Nat} (d : decode cc pc = .ok (.astore i, 2)) (hn : i < nL) (hl2 : (i, Value.ref x) :: l.filter (fun q => !(q.1 == i) && !(q.1 + 1 == i && q.2.category == 2)) = l') (k : EV X nL (pc + 2) l' st kc ks M) : EV X nL pc l (.ref x :: st) kc ks M := fun H locs ls hl hM hS => lv_astore C.1 C.2.1 d hl hn (lv_map1 hl2) (fun ls2 hl3 => k H locs ls2 hl3 hM hS)
theorem ev_iinc (C : CX X own nm cc nL ret) {i q : Nat} {n : Int} {x v : Int32} (d : decode cc pc = .ok (.iinc i n, 3)) (hk : l[q]? = some (i, .int x)) (hv : x + Int32.ofInt n = v) (hn : i < nL) (hl2 : (i, Value.int v) :: l.filter (fun q => !(q.1 == i) && !(q.1 + 1 == i && q.2.category == 2)) = l') (k : EV X nL (pc + 3) l' st kc ks M) : EV X nL pc l st kc ks M := fun H locs ls hl hM hS => lv_iinc C.1 C.2.1 d hl (k := q) (lv_map hk) hv hn (lv_map1 hl2) (fun ls2 hl3 => k H locs ls2 hl3 hM hS)
theorem ev_sub (ps : List Nat) (h : lv_pick l ps = l') (k : EV X nL pc l' st kc ks M) : EV X nL pc l st kc ks M := fun H locs ls hl hM hS => k H locs ls (lv_sub hl ps (by
  rw [← h]
  unfold lv_pick
  rw [List.map_filterMap]
  congr 1
  funext j
  rw [List.getElem?_map])) hM hS
theorem ev_iadd (C : CX X own nm cc nL ret) {x y : Int32} (d : decode cc pc = .ok (.iadd, 1))  (k : EV X nL (pc + 1) l (.int (x + y) :: st) kc ks M) : EV X nL pc l (.int y :: .int x :: st) kc ks M := fun H locs ls hl hM hS => lv_iadd C.1 C.2.1 d (k H locs ls hl hM hS)
theorem ev_isub (C : CX X own nm cc nL ret) {x y : Int32} (d : decode cc pc = .ok (.isub, 1))  (k : EV X nL (pc + 1) l (.int (x - y) :: st) kc ks M) : EV X nL pc l (.int y :: .int x :: st) kc ks M := fun H locs ls hl hM hS => lv_isub C.1 C.2.1 d (k H locs ls hl hM hS)
theorem ev_imul (C : CX X own nm cc nL ret) {x y : Int32} (d : decode cc pc = .ok (.imul, 1))  (k : EV X nL (pc + 1) l (.int (x * y) :: st) kc ks M) : EV X nL pc l (.int y :: .int x :: st) kc ks M := fun H locs ls hl hM hS => lv_imul C.1 C.2.1 d (k H locs ls hl hM hS)
theorem ev_iand (C : CX X own nm cc nL ret) {x y : Int32} (d : decode cc pc = .ok (.iand, 1))  (k : EV X nL (pc + 1) l (.int (x &&& y) :: st) kc ks M) : EV X nL pc l (.int y :: .int x :: st) kc ks M := fun H locs ls hl hM hS => lv_iand C.1 C.2.1 d (k H locs ls hl hM hS)
theorem ev_ior (C : CX X own nm cc nL ret) {x y : Int32} (d : decode cc pc = .ok (.ior, 1))  (k : EV X nL (pc + 1) l (.int (x ||| y) :: st) kc ks M) : EV X nL pc l (.int y :: .int x :: st) kc ks M := fun H locs ls hl hM hS => lv_ior C.1 C.2.1 d (k H locs ls hl hM hS)
theorem ev_ixor (C : CX X own nm cc nL ret) {x y : Int32} (d : decode cc pc = .ok (.ixor, 1))  (k : EV X nL (pc + 1) l (.int (x ^^^ y) :: st) kc ks M) : EV X nL pc l (.int y :: .int x :: st) kc ks M := fun H locs ls hl hM hS => lv_ixor C.1 C.2.1 d (k H locs ls hl hM hS)
theorem ev_ishl (C : CX X own nm cc nL ret) {x y : Int32} (d : decode cc pc = .ok (.ishl, 1))  (k : EV X nL (pc + 1) l (.int (x <<< (y &&& 31)) :: st) kc ks M) : EV X nL pc l (.int y :: .int x :: st) kc ks M := fun H locs ls hl hM hS => lv_ishl C.1 C.2.1 d (k H locs ls hl hM hS)
theorem ev_ishr (C : CX X own nm cc nL ret) {x y : Int32} (d : decode cc pc = .ok (.ishr, 1))  (k : EV X nL (pc + 1) l (.int (x >>> (y &&& 31)) :: st) kc ks M) : EV X nL pc l (.int y :: .int x :: st) kc ks M := fun H locs ls hl hM hS => lv_ishr C.1 C.2.1 d (k H locs ls hl hM hS)
theorem ev_idiv (C : CX X own nm cc nL ret) {x y : Int32} (d : decode cc pc = .ok (.idiv, 1)) (hne : ¬ y = 0) (k : EV X nL (pc + 1) l (.int (x / y) :: st) kc ks M) : EV X nL pc l (.int y :: .int x :: st) kc ks M := fun H locs ls hl hM hS => lv_idiv C.1 C.2.1 d hne (k H locs ls hl hM hS)
theorem ev_irem (C : CX X own nm cc nL ret) {x y : Int32} (d : decode cc pc = .ok (.irem, 1)) (hne : ¬ y = 0) (k : EV X nL (pc + 1) l (.int (x - x / y * y) :: st) kc ks M) : EV X nL pc l (.int y :: .int x :: st) kc ks M := fun H locs ls hl hM hS => lv_irem C.1 C.2.1 d hne (k H locs ls hl hM hS)
theorem ev_ineg (C : CX X own nm cc nL ret) {x : Int32} (d : decode cc pc = .ok (.ineg, 1))  (k : EV X nL (pc + 1) l (.int (-x) :: st) kc ks M) : EV X nL pc l (.int x :: st) kc ks M := fun H locs ls hl hM hS => lv_ineg C.1 C.2.1 d (k H locs ls hl hM hS)
theorem ev_ladd (C : CX X own nm cc nL ret) {x y : Int64} (d : decode cc pc = .ok (.ladd, 1))  (k : EV X nL (pc + 1) l (.long (x + y) :: st) kc ks M) : EV X nL pc l (.long y :: .long x :: st) kc ks M := fun H locs ls hl hM hS => lv_ladd C.1 C.2.1 d (k H locs ls hl hM hS)
theorem ev_lsub (C : CX X own nm cc nL ret) {x y : Int64} (d : decode cc pc = .ok (.lsub, 1))  (k : EV X nL (pc + 1) l (.long (x - y) :: st) kc ks M) : EV X nL pc l (.long y :: .long x :: st) kc ks M := fun H locs ls hl hM hS => lv_lsub C.1 C.2.1 d (k H locs ls hl hM hS)
theorem ev_lmul (C : CX X own nm cc nL ret) {x y : Int64} (d : decode cc pc = .ok (.lmul, 1))  (k : EV X nL (pc + 1) l (.long (x * y) :: st) kc ks M) : EV X nL pc l (.long y :: .long x :: st) kc ks M := fun H locs ls hl hM hS => lv_lmul C.1 C.2.1 d (k H locs ls hl hM hS)
theorem ev_land (C : CX X own nm cc nL ret) {x y : Int64} (d : decode cc pc = .ok (.land, 1))  (k : EV X nL (pc + 1) l (.long (x &&& y) :: st) kc ks M) : EV X nL pc l (.long y :: .long x :: st) kc ks M := fun H locs ls hl hM hS => lv_land C.1 C.2.1 d (k H locs ls hl hM hS)
theorem ev_lor (C : CX X own nm cc nL ret) {x y : Int64} (d : decode cc pc = .ok (.lor, 1))  (k : EV X nL (pc + 1) l (.long (x ||| y) :: st) kc ks M) : EV X nL pc l (.long y :: .long x :: st) kc ks M := fun H locs ls hl hM hS => lv_lor C.1 C.2.1 d (k H locs ls hl hM hS)
theorem ev_ldiv (C : CX X own nm cc nL ret) {x y : Int64} (d : decode cc pc = .ok (.ldiv, 1)) (hne : ¬ y = 0) (k : EV X nL (pc + 1) l (.long (x / y) :: st) kc ks M) : EV X nL pc l (.long y :: .long x :: st) kc ks M := fun H locs ls hl hM hS => lv_ldiv C.1 C.2.1 d hne (k H locs ls hl hM hS)
theorem ev_lcmp (C : CX X own nm cc nL ret) {x y : Int64} (d : decode cc pc = .ok (.lcmp, 1))  (k : EV X nL (pc + 1) l (.int (lg_cmp x y) :: st) kc ks M) : EV X nL pc l (.long y :: .long x :: st) kc ks M := fun H locs ls hl hM hS => W.lcmp C.1 C.2.1 d (k H locs ls hl hM hS)
theorem ev_iushr (C : CX X own nm cc nL ret) {x y : Int32} (d : decode cc pc = .ok (.iushr, 1))  (k : EV X nL (pc + 1) l (.int ((x.toUInt32 >>> (y.toUInt32 &&& Int32.toUInt32 31)).toInt32) :: st) kc ks M) : EV X nL pc l (.int y :: .int x :: st) kc ks M := fun H locs ls hl hM hS => lv_iushr C.1 C.2.1 d rfl (k H locs ls hl hM hS)
theorem ev_lushr (C : CX X own nm cc nL ret) {x : Int64} {y : Int32} (d : decode cc pc = .ok (.lushr, 1))  (k : EV X nL (pc + 1) l (.long ((x.toUInt64 >>> (y.toInt64.toUInt64 &&& Int64.toUInt64 63)).toInt64) :: st) kc ks M) : EV X nL pc l (.int y :: .long x :: st) kc ks M := fun H locs ls hl hM hS => lv_lushr C.1 C.2.1 d rfl (k H locs ls hl hM hS)
theorem ev_lshl (C : CX X own nm cc nL ret) {x : Int64} {y : Int32} (d : decode cc pc = .ok (.lshl, 1))  (k : EV X nL (pc + 1) l (.long (x <<< (y.toInt64 &&& 63)) :: st) kc ks M) : EV X nL pc l (.int y :: .long x :: st) kc ks M := fun H locs ls hl hM hS => lv_lshl C.1 C.2.1 d rfl (k H locs ls hl hM hS)
theorem ev_lshr (C : CX X own nm cc nL ret) {x : Int64} {y : Int32} (d : decode cc pc = .ok (.lshr, 1))  (k : EV X nL (pc + 1) l (.long (x >>> (y.toInt64 &&& 63)) :: st) kc ks M) : EV X nL pc l (.int y :: .long x :: st) kc ks M := fun H locs ls hl hM hS => lv_lshr C.1 C.2.1 d rfl (k H locs ls hl hM hS)
theorem ev_i2l (C : CX X own nm cc nL ret) {x : Int32} (d : decode cc pc = .ok (.i2l, 1))  (k : EV X nL (pc + 1) l (.long x.toInt64 :: st) kc ks M) : EV X nL pc l (.int x :: st) kc ks M := fun H locs ls hl hM hS => lv_i2l C.1 C.2.1 d rfl (k H locs ls hl hM hS)
theorem ev_l2i (C : CX X own nm cc nL ret) {x : Int64} (d : decode cc pc = .ok (.l2i, 1))  (k : EV X nL (pc + 1) l (.int x.toInt32 :: st) kc ks M) : EV X nL pc l (.long x :: st) kc ks M := fun H locs ls hl hM hS => lv_l2i C.1 C.2.1 d rfl (k H locs ls hl hM hS)
theorem ev_i2b (C : CX X own nm cc nL ret) {x : Int32} (d : decode cc pc = .ok (.i2b, 1))  (k : EV X nL (pc + 1) l (.int x.toInt8.toInt32 :: st) kc ks M) : EV X nL pc l (.int x :: st) kc ks M := fun H locs ls hl hM hS => lv_i2b C.1 C.2.1 d rfl (k H locs ls hl hM hS)
theorem ev_i2c (C : CX X own nm cc nL ret) {x : Int32} (d : decode cc pc = .ok (.i2c, 1))  (k : EV X nL (pc + 1) l (.int (x.toUInt32 % 65536).toInt32 :: st) kc ks M) : EV X nL pc l (.int x :: st) kc ks M := fun H locs ls hl hM hS => lv_i2c C.1 C.2.1 d rfl (k H locs ls hl hM hS)
theorem ev_i2d (C : CX X own nm cc nL ret) {x : Int32} (d : decode cc pc = .ok (.i2d, 1))  (k : EV X nL (pc + 1) l (.double (FP.i2d x) :: st) kc ks M) : EV X nL pc l (.int x :: st) kc ks M := fun H locs ls hl hM hS => lv_i2d C.1 C.2.1 d (k H locs ls hl hM hS)
theorem ev_i2f (C : CX X own nm cc nL ret) {x : Int32} (d : decode cc pc = .ok (.i2f, 1))  (k : EV X nL (pc + 1) l (.float (FP.i2f x) :: st) kc ks M) : EV X nL pc l (.int x :: st) kc ks M := fun H locs ls hl hM hS => lv_i2f C.1 C.2.1 d (k H locs ls hl hM hS)
theorem ev_d2i (C : CX X own nm cc nL ret) {x : UInt64} (d : decode cc pc = .ok (.d2i, 1))  (k : EV X nL (pc + 1) l (.int (FP.d2i x) :: st) kc ks M) : EV X nL pc l (.double x :: st) kc ks M := fun H locs ls hl hM hS => lv_d2i C.1 C.2.1 d (k H locs ls hl hM hS)
theorem ev_d2l (C : CX X own nm cc nL ret) {x : UInt64} (d : decode cc pc = .ok (.d2l, 1))  (k : EV X nL (pc + 1) l (.long (FP.d2l x) :: st) kc ks M) : EV X nL pc l (.double x :: st) kc ks M := fun H locs ls hl hM hS => lv_d2l C.1 C.2.1 d (k H locs ls hl hM hS)
theorem ev_dneg (C : CX X own nm cc nL ret) {x : UInt64} (d : decode cc pc = .ok (.dneg, 1))  (k : EV X nL (pc + 1) l (.double (FP.dneg x) :: st) kc ks M) : EV X nL pc l (.double x :: st) kc ks M := fun H locs ls hl hM hS => lv_dneg C.1 C.2.1 d (k H locs ls hl hM hS)
theorem ev_f2d (C : CX X own nm cc nL ret) {x : UInt32} (d : decode cc pc = .ok (.f2d, 1)) (hne : vf_n64 (FP.f2d x)) (k : EV X nL (pc + 1) l (.double (FP.f2d x) :: st) kc ks M) : EV X nL pc l (.float x :: st) kc ks M := fun H locs ls hl hM hS => lv_f2d C.1 C.2.1 d hne (k H locs ls hl hM hS)
theorem ev_d2f (C : CX X own nm cc nL ret) {x : UInt64} (d : decode cc pc = .ok (.d2f, 1)) (hne : vf_n32 (FP.d2f x)) (k : EV X nL (pc + 1) l (.float (FP.d2f x) :: st) kc ks M) : EV X nL pc l (.double x :: st) kc ks M := fun H locs ls hl hM hS => lv_d2f C.1 C.2.1 d hne (k H locs ls hl hM hS)
theorem ev_dadd (C : CX X own nm cc nL ret) {x y : UInt64} (d : decode cc pc = .ok (.dadd, 1)) (hne : vf_n64 (FP.dadd x y)) (k : EV X nL (pc + 1) l (.double (FP.dadd x y) :: st) kc ks M) : EV X nL pc l (.double y :: .double x :: st) kc ks M := fun H locs ls hl hM hS => lv_dadd C.1 C.2.1 d hne (k H locs ls hl hM hS)
theorem ev_dsub (C : CX X own nm cc nL ret) {x y : UInt64} (d : decode cc pc = .ok (.dsub, 1)) (hne : vf_n64 (FP.dsub x y)) (k : EV X nL (pc + 1) l (.double (FP.dsub x y) :: st) kc ks M) : EV X nL pc l (.double y :: .double x :: st) kc ks M := fun H locs ls hl hM hS => lv_dsub C.1 C.2.1 d hne (k H locs ls hl hM hS)
theorem ev_dmul (C : CX X own nm cc nL ret) {x y : UInt64} (d : decode cc pc = .ok (.dmul, 1)) (hne : vf_n64 (FP.dmul x y)) (k : EV X nL (pc + 1) l (.double (FP.dmul x y) :: st) kc ks M) : EV X nL pc l (.double y :: .double x :: st) kc ks M := fun H locs ls hl hM hS => lv_dmul C.1 C.2.1 d hne (k H locs ls hl hM hS)
theorem ev_ddiv (C : CX X own nm cc nL ret) {x y : UInt64} (d : decode cc pc = .ok (.ddiv, 1)) (hne : vf_n64 (FP.ddiv x y)) (k : EV X nL (pc + 1) l (.double (FP.ddiv x y) :: st) kc ks M) : EV X nL pc l (.double y :: .double x :: st) kc ks M := fun H locs ls hl hM hS => lv_ddiv C.1 C.2.1 d hne (k H locs ls hl hM hS)
theorem ev_fadd (C : CX X own nm cc nL ret) {x y : UInt32} (d : decode cc pc = .ok (.fadd, 1)) (hne : vf_n32 (FP.fadd x y)) (k : EV X nL (pc + 1) l (.float (FP.fadd x y) :: st) kc ks M) : EV X nL pc l (.float y :: .float x :: st) kc ks M := fun H locs ls hl hM hS => lv_fadd C.1 C.2.1 d hne (k H locs ls hl hM hS)
theorem ev_fsub (C : CX X own nm cc nL ret) {x y : UInt32} (d : decode cc pc = .ok (.fsub, 1)) (hne : vf_n32 (FP.fsub x y)) (k : EV X nL (pc + 1) l (.float (FP.fsub x y) :: st) kc ks M) : EV X nL pc l (.float y :: .float x :: st) kc ks M := fun H locs ls hl hM hS => lv_fsub C.1 C.2.1 d hne (k H locs ls hl hM hS)
theorem ev_fmul (C : CX X own nm cc nL ret) {x y : UInt32} (d : decode cc pc = .ok (.fmul, 1)) (hne : vf_n32 (FP.fmul x y)) (k : EV X nL (pc + 1) l (.float (FP.fmul x y) :: st) kc ks M) : EV X nL pc l (.float y :: .float x :: st) kc ks M := fun H locs ls hl hM hS => lv_fmul C.1 C.2.1 d hne (k H locs ls hl hM hS)
theorem ev_fdiv (C : CX X own nm cc nL ret) {x y : UInt32} (d : decode cc pc = .ok (.fdiv, 1)) (hne : vf_n32 (FP.fdiv x y)) (k : EV X nL (pc + 1) l (.float (FP.fdiv x y) :: st) kc ks M) : EV X nL pc l (.float y :: .float x :: st) kc ks M := fun H locs ls hl hM hS => lv_fdiv C.1 C.2.1 d hne (k H locs ls hl hM hS)
theorem ev_dcmp (C : CX X own nm cc nL ret) {x y : UInt64} {op : CmpOp} (d : decode cc pc = .ok (.dcmp op, 1))  (k : EV X nL (pc + 1) l (.int (Op.cmpValue (FP.dcmp x y) op) :: st) kc ks M) : EV X nL pc l (.double y :: .double x :: st) kc ks M := fun H locs ls hl hM hS => lv_dcmp C.1 C.2.1 d (k H locs ls hl hM hS)
theorem ev_fcmp (C : CX X own nm cc nL ret) {x y : UInt32} {op : CmpOp} (d : decode cc pc = .ok (.fcmp op, 1))  (k : EV X nL (pc + 1) l (.int (Op.cmpValue (FP.fcmp x y) op) :: st) kc ks M) : EV X nL pc l (.float y :: .float x :: st) kc ks M := fun H locs ls hl hM hS => lv_fcmp C.1 C.2.1 d (k H locs ls hl hM hS)
theorem ev_dup (C : CX X own nm cc nL ret) {va : Value} (d : decode cc pc = .ok (.dup, 1)) (h1 : va.category = 1) (k : EV X nL (pc + 1) l (va :: va :: st) kc ks M) : EV X nL pc l (va :: st) kc ks M := fun H locs ls hl hM hS => lv_dup C.1 C.2.1 d (by rw [m_v_cat]; exact h1) (k H locs ls hl hM hS)
theorem ev_pop (C : CX X own nm cc nL ret) {va : Value} (d : decode cc pc = .ok (.pop, 1)) (h1 : va.category = 1) (k : EV X nL (pc + 1) l (st) kc ks M) : EV X nL pc l (va :: st) kc ks M := fun H locs ls hl hM hS => lv_pop C.1 C.2.1 d (by rw [m_v_cat]; exact h1) (k H locs ls hl hM hS)
theorem ev_dup_x1 (C : CX X own nm cc nL ret) {va vb : Value} (d : decode cc pc = .ok (.dup_x1, 1)) (h1 : va.category = 1) (h2 : vb.category = 1) (k : EV X nL (pc + 1) l (va :: vb :: va :: st) kc ks M) : EV X nL pc l (va :: vb :: st) kc ks M := fun H locs ls hl hM hS => lv_dup_x1 C.1 C.2.1 d (by rw [m_v_cat]; exact h1) (by rw [m_v_cat]; exact h2) (k H locs ls hl hM hS)
theorem ev_dup_x2 (C : CX X own nm cc nL ret) {va vb vd : Value} (d : decode cc pc = .ok (.dup_x2, 1)) (h1 : va.category = 1) (h2 : vb.category = 1) (h3 : vd.category = 1) (k : EV X nL (pc + 1) l (va :: vb :: vd :: va :: st) kc ks M) : EV X nL pc l (va :: vb :: vd :: st) kc ks M := fun H locs ls hl hM hS => lv_dup_x2 C.1 C.2.1 d (by rw [m_v_cat]; exact h1) (by rw [m_v_cat]; exact h2) (by rw [m_v_cat]; exact h3) (k H locs ls hl hM hS)
theorem ev_dup2_11 (C : CX X own nm cc nL ret) {va vb : Value} (d : decode cc pc = .ok (.dup2, 1)) (h1 : va.category = 1) (h2 : vb.category = 1) (k : EV X nL (pc + 1) l (va :: vb :: va :: vb :: st) kc ks M) : EV X nL pc l (va :: vb :: st) kc ks M := fun H locs ls hl hM hS => lv_dup2_11 C.1 C.2.1 d (by rw [m_v_cat]; exact h1) (by rw [m_v_cat]; exact h2) (k H locs ls hl hM hS)
theorem ev_goto (C : CX X own nm cc nL ret) {off : Int} {tgt : Nat} (d : decode cc pc = .ok (.goto off, 3)) (ht : (pc : Int) + off = (tgt : Int)) (k : EV X nL tgt l (st) kc ks M) : EV X nL pc l (st) kc ks M := fun H locs ls hl hM hS => lv_goto C.1 C.2.1 d ht (k H locs ls hl hM hS)
theorem ev_if_eq (C : CX X own nm cc nL ret) {x : Int32} {off : Int} {tgt : Nat} (d : decode cc pc = .ok (.ifCond .eq off, 3)) (ht : (pc : Int) + off = (tgt : Int)) (kt : (x = 0) → EV X nL tgt l st kc ks M) (kf : ¬ (x = 0) → EV X nL (pc + 3) l st kc ks M) : EV X nL pc l (.int x :: st) kc ks M := fun H locs ls hl hM hS => lv_if_eq C.1 C.2.1 d ht (fun h => kt h H locs ls hl hM hS) (fun h => kf h H locs ls hl hM hS)
theorem ev_icmp_eq (C : CX X own nm cc nL ret) {x y : Int32} {off : Int} {tgt : Nat} (d : decode cc pc = .ok (.if_icmp .eq off, 3)) (ht : (pc : Int) + off = (tgt : Int)) (kt : (x = y) → EV X nL tgt l st kc ks M) (kf : ¬ (x = y) → EV X nL (pc + 3) l st kc ks M) : EV X nL pc l (.int y :: .int x :: st) kc ks M := fun H locs ls hl hM hS => lv_icmp_eq C.1 C.2.1 d ht (fun h => kt h H locs ls hl hM hS) (fun h => kf h H locs ls hl hM hS)
theorem ev_if_ne (C : CX X own nm cc nL ret) {x : Int32} {off : Int} {tgt : Nat} (d : decode cc pc = .ok (.ifCond .ne off, 3)) (ht : (pc : Int) + off = (tgt : Int)) (kt : (¬ x = 0) → EV X nL tgt l st kc ks M) (kf : (x = 0) → EV X nL (pc + 3) l st kc ks M) : EV X nL pc l (.int x :: st) kc ks M := fun H locs ls hl hM hS => lv_if_ne C.1 C.2.1 d ht (fun h => kt h H locs ls hl hM hS) (fun h => kf h H locs ls hl hM hS)
theorem ev_icmp_ne (C : CX X own nm cc nL ret) {x y : Int32} {off : Int} {tgt : Nat} (d : decode cc pc = .ok (.if_icmp .ne off, 3)) (ht : (pc : Int) + off = (tgt : Int)) (kt : (¬ x = y) → EV X nL tgt l st kc ks M) (kf : (x = y) → EV X nL (pc + 3) l st kc ks M) : EV X nL pc l (.int y :: .int x :: st) kc ks M := fun H locs ls hl hM hS => lv_icmp_ne C.1 C.2.1 d ht (fun h => kt h H locs ls hl hM hS) (fun h => kf h H locs ls hl hM hS)
theorem ev_if_lt (C : CX X own nm cc nL ret) {x : Int32} {off : Int} {tgt : Nat} (d : decode cc pc = .ok (.ifCond .lt off, 3)) (ht : (pc : Int) + off = (tgt : Int)) (kt : (x < 0) → EV X nL tgt l st kc ks M) (kf : ¬ (x < 0) → EV X nL (pc + 3) l st kc ks M) : EV X nL pc l (.int x :: st) kc ks M := fun H locs ls hl hM hS => lv_if_lt C.1 C.2.1 d ht (fun h => kt h H locs ls hl hM hS) (fun h => kf h H locs ls hl hM hS)
theorem ev_icmp_lt (C : CX X own nm cc nL ret) {x y : Int32} {off : Int} {tgt : Nat} (d : decode cc pc = .ok (.if_icmp .lt off, 3)) (ht : (pc : Int) + off = (tgt : Int)) (kt : (x < y) → EV X nL tgt l st kc ks M) (kf : ¬ (x < y) → EV X nL (pc + 3) l st kc ks M) : EV X nL pc l (.int y :: .int x :: st) kc ks M := fun H locs ls hl hM hS => lv_icmp_lt C.1 C.2.1 d ht (fun h => kt h H locs ls hl hM hS) (fun h => kf h H locs ls hl hM hS)
theorem ev_if_ge (C : CX X own nm cc nL ret) {x : Int32} {off : Int} {tgt : Nat} (d : decode cc pc = .ok (.ifCond .ge off, 3)) (ht : (pc : Int) + off = (tgt : Int)) (kt : (0 ≤ x) → EV X nL tgt l st kc ks M) (kf : ¬ (0 ≤ x) → EV X nL (pc + 3) l st kc ks M) : EV X nL pc l (.int x :: st) kc ks M := fun H locs ls hl hM hS => lv_if_ge C.1 C.2.1 d ht (fun h => kt h H locs ls hl hM hS) (fun h => kf h H locs ls hl hM hS)
theorem ev_icmp_ge (C : CX X own nm cc nL ret) {x y : Int32} {off : Int} {tgt : Nat} (d : decode cc pc = .ok (.if_icmp .ge off, 3)) (ht : (pc : Int) + off = (tgt : Int)) (kt : (y ≤ x) → EV X nL tgt l st kc ks M) (kf : ¬ (y ≤ x) → EV X nL (pc + 3) l st kc ks M) : EV X nL pc l (.int y :: .int x :: st) kc ks M := fun H locs ls hl hM hS => lv_icmp_ge C.1 C.2.1 d ht (fun h => kt h H locs ls hl hM hS) (fun h => kf h H locs ls hl hM hS)
theorem ev_if_gt (C : CX X own nm cc nL ret) {x : Int32} {off : Int} {tgt : Nat} (d : decode cc pc = .ok (.ifCond .gt off, 3)) (ht : (pc : Int) + off = (tgt : Int)) (kt : (0 < x) → EV X nL tgt l st kc ks M) (kf : ¬ (0 < x) → EV X nL (pc + 3) l st kc ks M) : EV X nL pc l (.int x :: st) kc ks M := fun H locs ls hl hM hS => lv_if_gt C.1 C.2.1 d ht (fun h => kt h H locs ls hl hM hS) (fun h => kf h H locs ls hl hM hS)
theorem ev_icmp_gt (C : CX X own nm cc nL ret) {x y : Int32} {off : Int} {tgt : Nat} (d : decode cc pc = .ok (.if_icmp .gt off, 3)) (ht : (pc : Int) + off = (tgt : Int)) (kt : (y < x) → EV X nL tgt l st kc ks M) (kf : ¬ (y < x) → EV X nL (pc + 3) l st kc ks M) : EV X nL pc l (.int y :: .int x :: st) kc ks M := fun H locs ls hl hM hS => lv_icmp_gt C.1 C.2.1 d ht (fun h => kt h H locs ls hl hM hS) (fun h => kf h H locs ls hl hM hS)
theorem ev_if_le (C : CX X own nm cc nL ret) {x : Int32} {off : Int} {tgt : Nat} (d : decode cc pc = .ok (.ifCond .le off, 3)) (ht : (pc : Int) + off = (tgt : Int)) (kt : (x ≤ 0) → EV X nL tgt l st kc ks M) (kf : ¬ (x ≤ 0) → EV X nL (pc + 3) l st kc ks M) : EV X nL pc l (.int x :: st) kc ks M := fun H locs ls hl hM hS => lv_if_le C.1 C.2.1 d ht (fun h => kt h H locs ls hl hM hS) (fun h => kf h H locs ls hl hM hS)
theorem ev_icmp_le (C : CX X own nm cc nL ret) {x y : Int32} {off : Int} {tgt : Nat} (d : decode cc pc = .ok (.if_icmp .le off, 3)) (ht : (pc : Int) + off = (tgt : Int)) (kt : (x ≤ y) → EV X nL tgt l st kc ks M) (kf : ¬ (x ≤ y) → EV X nL (pc + 3) l st kc ks M) : EV X nL pc l (.int y :: .int x :: st) kc ks M := fun H locs ls hl hM hS => lv_icmp_le C.1 C.2.1 d ht (fun h => kt h H locs ls hl hM hS) (fun h => kf h H locs ls hl hM hS)
theorem ev_tableOut (C : CX X own nm cc nL ret) {dflt lo hi : Int} {offs : Array Int} {len : Nat} {x : Int32} {tgt : Nat} (d : decode cc pc = .ok (.tableswitch dflt lo hi offs, len)) (h : x.toInt < lo ∨ hi < x.toInt) (ht : (pc : Int) + dflt = (tgt : Int)) (k : EV X nL tgt l st kc ks M) : EV X nL pc l (.int x :: st) kc ks M := fun H locs ls hl hM hS => lv_tableOut C.1 C.2.1 d h ht (k H locs ls hl hM hS)
theorem ev_tableIn (C : CX X own nm cc nL ret) {dflt lo hi : Int} {offs : Array Int} {len : Nat} {x : Int32} {off : Int} {tgt : Nat} (d : decode cc pc = .ok (.tableswitch dflt lo hi offs, len)) (h1 : ¬ x.toInt < lo) (h2 : ¬ hi < x.toInt) (ho : offs[(x.toInt - lo).toNat]? = some off) (ht : (pc : Int) + off = (tgt : Int)) (k : EV X nL tgt l st kc ks M) : EV X nL pc l (.int x :: st) kc ks M := fun H locs ls hl hM hS => lv_tableIn C.1 C.2.1 d h1 h2 ho ht (k H locs ls hl hM hS)
theorem ev_widen {k2 n2 : Nat} (h1 : kc ≤ k2) (h2 : ks ≤ n2) (k : EV X nL pc l st k2 n2 M) : EV X nL pc l st kc ks M := fun H locs ls hl hM hS => W.widen h1 h2 (k H locs ls hl hM hS)
end EVR
end
section
-- reading and writing the abstract memory
def vI : Value → Option Int32
  | .int x => some x
  | _ => none
def vL : Value → Option Int64
  | .long x => some x
  | _ => none
def vD : Value → Option UInt64
  | .double x => some x
  | _ => none
def vR : Value → Option Nat
  | .ref x => some x
  | _ => none
theorem vI_eq {v : Value} {x : Int32} (h : vI v = some x) : v = .int x := by cases v <;> simp [vI] at h ⊢; exact h
theorem vL_eq {v : Value} {x : Int64} (h : vL v = some x) : v = .long x := by cases v <;> simp [vL] at h ⊢; exact h
theorem vD_eq {v : Value} {x : UInt64} (h : vD v = some x) : v = .double x := by cases v <;> simp [vD] at h ⊢; exact h
theorem vR_eq {v : Value} {x : Nat} (h : vR v = some x) : v = .ref x := by cases v <;> simp [vR] at h ⊢; exact h
def cF (ci k : Nat) : mC → Option Value
  | .inr (c, fs) => if c = ci then fs[k]? else none
  | .inl _ => none
def fV (M : mM) (a ci k : Nat) : Option Value := M[a]?.bind (cF ci k)
def fI (M : mM) (a ci k : Nat) : Option Int32 := (fV M a ci k).bind vI
def fL (M : mM) (a ci k : Nat) : Option Int64 := (fV M a ci k).bind vL
def fR (M : mM) (a ci k : Nat) : Option Nat := (fV M a ci k).bind vR
theorem fV_spec {M : mM} {a ci k : Nat} {v : Value} (h : fV M a ci k = some v) : ∃ fs : List Value, M[a]? = some (.inr (ci, fs)) ∧ fs[k]? = some v := by
  obtain ⟨c, h1, h2⟩ := Option.bind_eq_some_iff.mp h
  cases c with
  | inl x => cases h2
  | inr o =>
    obtain ⟨c, fs⟩ := o
    simp only [cF] at h2
    split at h2
    · next e => subst e; exact ⟨fs, h1, h2⟩
    · cases h2
theorem fI_V {M : mM} {a ci k : Nat} {x : Int32} (h : fI M a ci k = some x) : fV M a ci k = some (.int x) := by
  obtain ⟨v, h1, h2⟩ := Option.bind_eq_some_iff.mp h
  rw [h1, vI_eq h2]
theorem fL_V {M : mM} {a ci k : Nat} {x : Int64} (h : fL M a ci k = some x) : fV M a ci k = some (.long x) := by
  obtain ⟨v, h1, h2⟩ := Option.bind_eq_some_iff.mp h
  rw [h1, vL_eq h2]
theorem fR_V {M : mM} {a ci k : Nat} {x : Nat} (h : fR M a ci k = some x) : fV M a ci k = some (.ref x) := by
  obtain ⟨v, h1, h2⟩ := Option.bind_eq_some_iff.mp h
  rw [h1, vR_eq h2]
def cS (k : Nat) (v : Value) (ci : Nat) : mC → Option mC
  | .inr (c, fs) => if c = ci ∧ k < fs.length then some (.inr (c, fs.set k v)) else none
  | .inl _ => none
def sV (M : mM) (a ci k : Nat) (v : Value) : Option mM := M[a]?.bind fun c => (cS k v ci c).map fun c2 => M.set a c2
theorem sV_spec {M M2 : mM} {a ci k : Nat} {v : Value} (h : sV M a ci k v = some M2) : ∃ fs : List Value, M[a]? = some (.inr (ci, fs)) ∧ k < fs.length ∧ M2 = M.set a (.inr (ci, fs.set k v)) := by
  obtain ⟨c, h1, h2⟩ := Option.bind_eq_some_iff.mp h
  obtain ⟨c2, h3, h4⟩ := Option.map_eq_some_iff.mp h2
  cases c with
  | inl x => cases h3
  | inr o =>
    obtain ⟨c, fs⟩ := o
    simp only [cS] at h3
    split at h3
    · next e =>
      obtain ⟨rfl, e⟩ := e
      cases h3
      exact ⟨fs, h1, e, h4.symm⟩
    · cases h3
/-- a boolean field -/
def sZ (M : mM) (a ci k : Nat) (x : Int32) : Option mM := if x = 0 ∨ x = 1 then sV M a ci k (.int x) else none
/-- a byte field -/
def sB (M : mM) (a ci k : Nat) (x : Int32) : Option mM := if x.toInt8.toInt32 = x then sV M a ci k (.int x) else none
-- arrays
abbrev mOut (i : Int32) (n : Nat) : Prop := i < 0 ∨ n ≤ i.toNatClampNeg
def aI (t : Nat) (M : mM) (a : Nat) (i : Int32) : Option Int32 := match M[a]? with
  | some (.inl (t2, n, .inl f)) => if t2 = t then (if mOut i n then none else some (f i.toNatClampNeg)) else none
  | _ => none
def aL (M : mM) (a : Nat) (i : Int32) : Option Int64 := match M[a]? with
  | some (.inl (t2, n, .inr (.inl f))) => if t2 = 1 then (if mOut i n then none else some (f i.toNatClampNeg)) else none
  | _ => none
def aD (M : mM) (a : Nat) (i : Int32) : Option UInt64 := match M[a]? with
  | some (.inl (t2, n, .inr (.inr (.inr (.inl f))))) => if t2 = 2 then (if mOut i n then none else some (f i.toNatClampNeg)) else none
  | _ => none
def aQ (t : Nat) (M : mM) (a : Nat) (i : Int32) : Option (Option Nat) := match M[a]? with
  | some (.inl (t2, n, .inr (.inr (.inr (.inr f))))) => if t2 = t then (if mOut i n then none else some (f i.toNatClampNeg)) else none
  | _ => none
def aR (t : Nat) (M : mM) (a : Nat) (i : Int32) : Option Nat := (aQ t M a i).bind id
def aN (t : Nat) (M : mM) (a : Nat) : Option Int32 := match M[a]? with
  | some (.inl (t2, n, _)) => if t2 = t then some (Int32.ofNat n) else none
  | _ => none
def uI (t : Nat) (ty : FieldType) (M : mM) (a : Nat) (i x : Int32) : Option mM := match M[a]? with
  | some (.inl (t2, n, .inl f)) => if t2 = t then (if mOut i n then none else some (M.set a (.inl (t2, n, .inl (va_up f i.toNatClampNeg (vp_nar ty x)))))) else none
  | _ => none
def uL (M : mM) (a : Nat) (i : Int32) (x : Int64) : Option mM := match M[a]? with
  | some (.inl (t2, n, .inr (.inl f))) => if t2 = 1 then (if mOut i n then none else some (M.set a (.inl (t2, n, .inr (.inl (va_up f i.toNatClampNeg x)))))) else none
  | _ => none
def uD (M : mM) (a : Nat) (i : Int32) (x : UInt64) : Option mM := match M[a]? with
  | some (.inl (t2, n, .inr (.inr (.inr (.inl f))))) => if t2 = 2 then (if mOut i n then none else some (M.set a (.inl (t2, n, .inr (.inr (.inr (.inl (va_up f i.toNatClampNeg x)))))))) else none
  | _ => none
/-- a reference stored: null, or an object of the class that the array is over -/
def uQ (t ci : Nat) (M : mM) (a : Nat) (i : Int32) (x : Option Nat) : Option mM := match M[a]? with
  | some (.inl (t2, n, .inr (.inr (.inr (.inr f))))) => if t2 = t then (if mOut i n then none else match x with
      | none => some (M.set a (.inl (t2, n, .inr (.inr (.inr (.inr (va_up f i.toNatClampNeg none)))))))
      | some y => match M[y]? with
        | some (.inr (c, _)) => if c = ci then some (M.set a (.inl (t2, n, .inr (.inr (.inr (.inr (va_up f i.toNatClampNeg (some y)))))))) else none
        | _ => none) else none
  | _ => none
theorem aI_spec {t : Nat} {M : mM} {a : Nat} {i x : Int32} (h : aI t M a i = some x) : ∃ (n : Nat) (f : Nat → Int32), M[a]? = some (.inl (t, n, .inl f)) ∧ vp_in i n ∧ f i.toNatClampNeg = x := by
  unfold aI at h
  split at h
  · next t2 n f e =>
    split at h
    · next e2 =>
      subst e2
      split at h
      · cases h
      · next e3 => exact ⟨n, f, e, e3, Option.some.inj h⟩
    · cases h
  · cases h
theorem aL_spec {M : mM} {a : Nat} {i : Int32} {x : Int64} (h : aL M a i = some x) : ∃ (n : Nat) (f : Nat → Int64), M[a]? = some (.inl (1, n, .inr (.inl f))) ∧ vp_in i n ∧ f i.toNatClampNeg = x := by
  unfold aL at h
  split at h
  · next t2 n f e =>
    split at h
    · next e2 =>
      subst e2
      split at h
      · cases h
      · next e3 => exact ⟨n, f, e, e3, Option.some.inj h⟩
    · cases h
  · cases h
theorem aD_spec {M : mM} {a : Nat} {i : Int32} {x : UInt64} (h : aD M a i = some x) : ∃ (n : Nat) (f : Nat → UInt64), M[a]? = some (.inl (2, n, .inr (.inr (.inr (.inl f))))) ∧ vp_in i n ∧ f i.toNatClampNeg = x := by
  unfold aD at h
  split at h
  · next t2 n f e =>
    split at h
    · next e2 =>
      subst e2
      split at h
      · cases h
      · next e3 => exact ⟨n, f, e, e3, Option.some.inj h⟩
    · cases h
  · cases h
theorem aQ_spec {t : Nat} {M : mM} {a : Nat} {i : Int32} {x : Option Nat} (h : aQ t M a i = some x) : ∃ (n : Nat) (f : Nat → Option Nat), M[a]? = some (.inl (t, n, .inr (.inr (.inr (.inr f))))) ∧ vp_in i n ∧ f i.toNatClampNeg = x := by
  unfold aQ at h
  split at h
  · next t2 n f e =>
    split at h
    · next e2 =>
      subst e2
      split at h
      · cases h
      · next e3 => exact ⟨n, f, e, e3, Option.some.inj h⟩
    · cases h
  · cases h
theorem aR_Q {t : Nat} {M : mM} {a : Nat} {i : Int32} {x : Nat} (h : aR t M a i = some x) : aQ t M a i = some (some x) := by
  obtain ⟨v, h1, h2⟩ := Option.bind_eq_some_iff.mp h
  rw [h1]
  exact congrArg some h2
theorem aN_spec {t : Nat} {M : mM} {a : Nat} {x : Int32} (h : aN t M a = some x) : ∃ (n : Nat) (d : (Nat → Int32) ⊕ (Nat → Int64) ⊕ (Nat → UInt32) ⊕ (Nat → UInt64) ⊕ (Nat → Option Nat)), M[a]? = some (.inl (t, n, d)) ∧ Int32.ofNat n = x := by
  unfold aN at h
  split at h
  · next t2 n d e =>
    split at h
    · next e2 => subst e2; exact ⟨n, d, e, Option.some.inj h⟩
    · cases h
  · cases h
theorem uI_spec {t : Nat} {ty : FieldType} {M M2 : mM} {a : Nat} {i x : Int32} (h : uI t ty M a i x = some M2) : ∃ (n : Nat) (f : Nat → Int32), M[a]? = some (.inl (t, n, .inl f)) ∧ vp_in i n ∧ M2 = M.set a (.inl (t, n, .inl (va_up f i.toNatClampNeg (vp_nar ty x)))) := by
  unfold uI at h
  split at h
  · next t2 n f e =>
    split at h
    · next e2 =>
      subst e2
      split at h
      · cases h
      · next e3 => exact ⟨n, f, e, e3, (Option.some.inj h).symm⟩
    · cases h
  · cases h
theorem uL_spec {M M2 : mM} {a : Nat} {i : Int32} {x : Int64} (h : uL M a i x = some M2) : ∃ (n : Nat) (f : Nat → Int64), M[a]? = some (.inl (1, n, .inr (.inl f))) ∧ vp_in i n ∧ M2 = M.set a (.inl (1, n, .inr (.inl (va_up f i.toNatClampNeg x)))) := by
  unfold uL at h
  split at h
  · next t2 n f e =>
    split at h
    · next e2 =>
      subst e2
      split at h
      · cases h
      · next e3 => exact ⟨n, f, e, e3, (Option.some.inj h).symm⟩
    · cases h
  · cases h
theorem uD_spec {M M2 : mM} {a : Nat} {i : Int32} {x : UInt64} (h : uD M a i x = some M2) : ∃ (n : Nat) (f : Nat → UInt64), M[a]? = some (.inl (2, n, .inr (.inr (.inr (.inl f))))) ∧ vp_in i n ∧ M2 = M.set a (.inl (2, n, .inr (.inr (.inr (.inl (va_up f i.toNatClampNeg x)))))) := by
  unfold uD at h
  split at h
  · next t2 n f e =>
    split at h
    · next e2 =>
      subst e2
      split at h
      · cases h
      · next e3 => exact ⟨n, f, e, e3, (Option.some.inj h).symm⟩
    · cases h
  · cases h
theorem uQ_spec {t ci : Nat} {M M2 : mM} {a : Nat} {i : Int32} {x : Option Nat} (h : uQ t ci M a i x = some M2) : ∃ (n : Nat) (f : Nat → Option Nat), M[a]? = some (.inl (t, n, .inr (.inr (.inr (.inr f))))) ∧ vp_in i n ∧ M2 = M.set a (.inl (t, n, .inr (.inr (.inr (.inr (va_up f i.toNatClampNeg x)))))) ∧ (x = none ∨ ∃ (y : Nat) (fs : List Value), x = some y ∧ M[y]? = some (.inr (ci, fs))) := by
  unfold uQ at h
  split at h
  · next t2 n f e =>
    split at h
    · next e2 =>
      subst e2
      split at h
      · cases h
      · next e3 =>
        split at h
        · exact ⟨n, f, e, e3, (Option.some.inj h).symm, Or.inl rfl⟩
        · next y =>
          split at h
          · next c fs e4 =>
            split at h
            · next e5 => subst e5; exact ⟨n, f, e, e3, (Option.some.inj h).symm, Or.inr ⟨y, fs, rfl, e4⟩⟩
            · cases h
          · cases h
    · cases h
  · cases h
-- statics
def zKinds (i : Int32) : Option Nat := if mOut i 4 then none else some i.toNatClampNeg
def zMost (i : Int32) : Option Int32 := if mOut i 4 then none else some (mostF i.toNatClampNeg)
def zDgO (i : Int32) : Option Int32 := if mOut i 100 then none else some (dgO i.toNatClampNeg)
def zDgT (i : Int32) : Option Int32 := if mOut i 100 then none else some (dgT i.toNatClampNeg)
def zK (l : List Int32) (a : Nat) : Option Int32 := if a < 4 then some (l.getD a 0) else none
def zK0 : Nat → Option Int32 := zK [0, 1, 2, 3]
def zK1 : Nat → Option Int32 := zK [-1, 0, 0, 2]
def zK2 : Nat → Option Int32 := zK [2, 0, 4, 3]
end
section
theorem CX.K {X : mX} {own nm : String} {cc : ByteArray} {nL : Nat} {ret : Option FieldType} (C : CX X own nm cc nL ret) : m_K (xw X) (xs X) := C.2.2.2.2.2.2.1
theorem CX.S {X : mX} {own nm : String} {cc : ByteArray} {nL : Nat} {ret : Option FieldType} (C : CX X own nm cc nL ret) : m_St (xw X) (xs X) (xs X).heap := C.2.2.2.2.2.2.2.1
theorem CX.B {X : mX} {own nm : String} {cc : ByteArray} {nL : Nat} {ret : Option FieldType} (C : CX X own nm cc nL ret) : (xw X).2.2.2.2 ≤ (xs X).heap.size := C.2.2.2.2.2.2.2.2.1
theorem CX.own {X : mX} {own nm : String} {cc : ByteArray} {nL : Nat} {ret : Option FieldType} (C : CX X own nm cc nL ret) : (xs X).vm.findClass own = some (xm X).cls := C.2.2.2.1
theorem CX.ts {X : mX} {own nm : String} {cc : ByteArray} {nL : Nat} {ret : Option FieldType} (C : CX X own nm cc nL ret) : ∀ w ∈ lw_all, w.before X.2.1.1 (xs X) = true := C.2.2.2.2.1
theorem m_hiA {w : mW} {k : Nat} (h : 9 ≤ k) : w.2.2.2.2 ≤ m_f w k := by rw [m_f_hi h]; omega
/-- what the tables say of a class: its place, its words, its fields' types and names -/
def clOK (Cn : String) (T : u_T) (N ci : Nat) (ty : Nat → FieldType) : Prop := vwCl[ci]? = some (Cn, T, N) ∧ (∀ w ∈ u_ws Cn T N, w ∈ lw_all) ∧ (∀ k, k < N → parseFieldDescriptor (T k).2.2.1 = some (ty k)) ∧ (∀ a, a < N → ∀ b, b < N → a ≠ b → (T a).2.1 ≠ (T b).2.1)
section EVM
variable {X : mX} {own nm : String} {cc : ByteArray} {nL pc kc ks : Nat} {ret : Option FieldType} {l l' : List (Nat × Value)} {st : List Value} {M M2 : mM} {Cn : String} {T : u_T} {N ci : Nat} {ty : Nat → FieldType}
theorem m_obj {w : mW} {H : Heap} {a : Nat} {fs : List Value} (hM : m_At w M H) (h : M[a]? = some (.inr (ci, fs))) (hc : vwCl[ci]? = some (Cn, T, N)) : 9 ≤ a ∧ t_OB (m_f w a) (w.1.1 ci) N (w.1.2 ci) H (vp_V (fs.map (m_v (m_f w)))) := by
  have h8 : 9 ≤ a := hM.hi h (fun e => by
    have e2 : ci = 99 := (Prod.mk.inj (Sum.inr.inj e)).1
    rw [e2] at hc
    cases hc)
  obtain ⟨r, h1, h2⟩ := hM.2.2.2 a _ h8 h
  have hr : r = (Cn, T, N) := Option.some.inj (h1.symm.trans hc)
  rw [hr] at h2
  exact ⟨h8, h2⟩
theorem m_arr {w : mW} {H : Heap} {a t : Nat} {d : vp_A} (hM : m_At w M H) (h : M[a]? = some (.inl (t, d))) : 9 ≤ a ∧ H[m_f w a]? = some (vp_cell (w.2.1 t) (m_d (m_f w) d)) := by
  have h8 : 9 ≤ a := hM.hi h (fun e => by cases e)
  exact ⟨h8, hM.2.2.2 a _ h8 h⟩
theorem ev_get (C : CX X own nm cc nL ret) (K : clOK Cn T N ci ty) {a k idx : Nat} {v : Value} (d : decode cc pc = .ok (.getfield idx, 3)) (hk : k < N) (link : Cond.fieldLink own idx (T k).1 (T k).2.1 (T k).2.2.1 ∈ lw_all) (hv : fV M a ci k = some v) (kk : EV X nL (pc + 3) l (v :: st) kc ks M) : EV X nL pc l (.ref a :: st) kc ks M := by
  intro H locs ls hl hM hS
  obtain ⟨fs, e1, e2⟩ := fV_spec hv
  obtain ⟨h8, cell, q1, q2, q3, q4⟩ := m_obj hM e1 K.1
  obtain ⟨hSl, hfc, kC, hkC, hkind⟩ := C.K.1 ci _ K.1
  obtain ⟨cf, kf, fi, f, hi, hsl⟩ := hSl k hk
  refine W.getf (v := m_v (xf X) v) C.1 C.2.1 C.own (C.ts _ link) hi (u_facts hfc hkC (u_lays C.ts K.2.1 hk) hi).1 q1 (by rw [q3]; exact fun h => by cases h) ?_ rfl rfl d (kk H locs ls hl hM hS)
  rw [hsl, q4 k hk]
  refine congrArg some ?_
  show (fs.map (m_v (xf X))).getD k .null = _
  rw [List.getD_eq_getElem?_getD, List.getElem?_map, e2]
  rfl
theorem m_put (C : CX X own nm cc nL ret) (K : clOK Cn T N ci ty) {a k : Nat} {fs : List Value} {H H1 : Heap} (hM : m_At (xw X) M H) (e1 : M[a]? = some (.inr (ci, fs))) (hk : k < N) (hl : k < fs.length) {v : Value} {cell : Cell} (q2 : cell.cls = (xw X).1.1 ci) (q3 : cell.vm = .none) (q4 : ∀ j, j < N → cell.slots[(xw X).1.2 ci j]? = some (vp_V (fs.map (m_v (xf X))) j)) (g1 : H1[xf X a]? = some (cell.setSlot ((xw X).1.2 ci k) (m_v (xf X) v))) (g2 : H1.size = H.size) (g3 : ∀ q, q ≠ xf X a → H1[q]? = H[q]?) : m_At (xw X) (M.set a (.inr (ci, fs.set k v))) H1 := by
  obtain ⟨h8, -⟩ := m_obj hM e1 K.1
  have hap : ∀ x y, x < N → y < N → x ≠ y → (xw X).1.2 ci x ≠ (xw X).1.2 ci y := by
    intro x y hx hy hne
    obtain ⟨hSl, -⟩ := C.K.1 ci _ K.1
    obtain ⟨_, _, _, fa, hia, ea⟩ := hSl x hx
    obtain ⟨_, _, _, fb, hib, eb⟩ := hSl y hy
    rw [← ea, ← eb]
    refine u_apart (u_lays C.ts K.2.1 hx) (u_lays C.ts K.2.1 hy) hia hib ?_
    rw [(State.fieldFound?_type hia (K.2.2.1 x hx)).1, (State.fieldFound?_type hib (K.2.2.1 y hy)).1]
    exact K.2.2.2 x hx y hy hne
  refine hM.set h8 e1 ⟨_, K.1, t_OB.to (V := updV (vp_V (fs.map (m_v (xf X)))) k (m_v (xf X) v)) ⟨_, g1, q2, q3, t_set q4 hap hk _⟩ (fun j _ => ?_)⟩ g2 g3
  rw [List.map_set]
  exact vp_updV_set (by rw [List.length_map]; exact hl) _ j
theorem ev_put (C : CX X own nm cc nL ret) (K : clOK Cn T N ci ty) {a k idx : Nat} {v : Value} (d : decode cc pc = .ok (.putfield idx, 3)) (hk : k < N) (link : Cond.fieldLink own idx (T k).1 (T k).2.1 (T k).2.2.1 ∈ lw_all) (hfin : (T k).2.2.2 = false) (hf : narrow (ty k) (m_v (xf X) v) = m_v (xf X) v ∧ fits (ty k) (m_v (xf X) v) = true) (hv : sV M a ci k v = some M2) (kk : EV X nL (pc + 3) l st kc ks M2) : EV X nL pc l (v :: .ref a :: st) kc ks M := by
  intro H locs ls hl hM hS
  obtain ⟨fs, e1, e2, rfl⟩ := sV_spec hv
  obtain ⟨h8, cell, q1, q2, q3, q4⟩ := m_obj hM e1 K.1
  obtain ⟨hSl, hfc, kC, hkC, hkind⟩ := C.K.1 ci _ K.1
  obtain ⟨cf, kf, fi, f, hi, hsl⟩ := hSl k hk
  have hlay := C.ts _ (K.2.1 _ (u_in_lay hk))
  unfold u_lay at hlay
  rw [if_neg (by rw [hfin]; decide)] at hlay
  have hst := (u_facts hfc hkC (u_lays C.ts K.2.1 hk) hi).1
  have h6 := u_store hfc hkC hkind hlay hi (K.2.2.1 k hk) hf.1 hf.2
  refine W.putK C.1 C.2.1 (f := f) ⟨C.own, C.ts _ link, ⟨_, _, _, hi⟩, hst⟩ (by rw [q2]; exact h6) q1 q3 (by rw [hsl]; exact k2_hasslot (q4 k hk)) rfl rfl d fun H1 g1 g2 g3 => ?_
  rw [hsl] at g1 ⊢
  exact kk H1 _ ls hl (m_put C K hM e1 hk e2 q2 q3 q4 g1 g2 g3) (hS.put g2 g3 (m_hiA h8))
theorem ev_putF (C : CX X own "<init>" cc nL ret) (K : clOK Cn T N ci ty) {a k idx : Nat} {v : Value} (d : decode cc pc = .ok (.putfield idx, 3)) (hk : k < N) (link : Cond.fieldLink own idx (T k).1 (T k).2.1 (T k).2.2.1 ∈ lw_all) (hfin : (T k).2.2.2 = true) (hdecl : (T k).1 = own) (hf : narrow (ty k) (m_v (xf X) v) = m_v (xf X) v ∧ fits (ty k) (m_v (xf X) v) = true) (hv : sV M a ci k v = some M2) (kk : EV X nL (pc + 3) l st kc ks M2) : EV X nL pc l (v :: .ref a :: st) kc ks M := by
  intro H locs ls hl hM hS
  obtain ⟨fs, e1, e2, rfl⟩ := sV_spec hv
  obtain ⟨h8, cell, q1, q2, q3, q4⟩ := m_obj hM e1 K.1
  obtain ⟨hSl, hfc, kC, hkC, hkind⟩ := C.K.1 ci _ K.1
  obtain ⟨cf, kf, fi, f, hi, hsl⟩ := hSl k hk
  have hlay := C.ts _ (K.2.1 _ (u_in_lay hk))
  unfold u_lay at hlay
  rw [if_pos hfin] at hlay
  have hst := (u_facts hfc hkC (u_lays C.ts K.2.1 hk) hi).1
  have hcf : (xm X).cls = cf := by
    obtain ⟨_, _, c9, _, _, _, -, -, hf9, -, -, -, hown2, -⟩ := Cond.laysFinal_spec hlay
    have e9 : c9 = cf := by have := hi.symm.trans hf9; simp at this; exact this.1.symm
    rw [hdecl] at hown2
    rw [← e9]; exact Option.some.inj (C.own.symm.trans hown2)
  have h6 := u_fits hfc hkC hkind (Or.inr hlay) hi (K.2.2.1 k hk) hf.1 hf.2
  refine W.putFinK C.1 C.2.1 C.own (C.ts _ link) hi hst hcf C.2.2.2.2.2.2.2.2.2.2 (by rw [q2]; exact h6) q1 q3 (by rw [hsl]; exact k2_hasslot (q4 k hk)) rfl rfl d fun H1 g1 g2 g3 => ?_
  rw [hsl] at g1 ⊢
  exact kk H1 _ ls hl (m_put C K hM e1 hk e2 q2 q3 q4 g1 g2 g3) (hS.put g2 g3 (m_hiA h8))
theorem ev_alen (C : CX X own nm cc nL ret) {a t : Nat} {x : Int32} {ty : FieldType} (ht : tyl[t]? = some ty) (d : decode cc pc = .ok (.arraylength, 1)) (hv : aN t M a = some x) (kk : EV X nL (pc + 1) l (.int x :: st) kc ks M) : EV X nL pc l (.ref a :: st) kc ks M := by
  intro H locs ls hl hM hS
  obtain ⟨n, z, e1, rfl⟩ := aN_spec hv
  obtain ⟨h8, q1⟩ := m_arr hM e1
  have hsz : (vp_cell ((xw X).2.1 t) (m_d (m_f (xw X)) (n, z))).slots.size = n ∧ (xs X).isArrayOf (vp_cell ((xw X).2.1 t) (m_d (m_f (xw X)) (n, z))) ty := by
    have hA := (C.K.2.1 t _ ht).1 n
    rcases z with f | f | f | f | f
    · exact ⟨arrV_size _ _ _, hA _⟩
    · exact ⟨arrV_size _ _ _, hA _⟩
    · exact ⟨arrV_size _ _ _, hA _⟩
    · exact ⟨arrV_size _ _ _, hA _⟩
    · exact ⟨arrV_size _ _ _, hA _⟩
  exact W.alen C.1 C.2.1 q1 hsz.2 (by rw [hsz.1]) rfl rfl d (kk H locs ls hl hM hS)
theorem ev_iald (C : CX X own nm cc nL ret) {a : Nat} {i : Int32} {x : Int32} (d : decode cc pc = .ok (.iaload, 1)) (hv : aI 0 M a i = some x) (kk : EV X nL (pc + 1) l (.int x :: st) kc ks M) : EV X nL pc l (.int i :: .ref a :: st) kc ks M := by
  intro H locs ls hl hM hS
  obtain ⟨n, f, e1, e2, rfl⟩ := aI_spec hv
  obtain ⟨h8, q1⟩ := m_arr hM e1
  have hlt : i.toNatClampNeg < n := Nat.not_le.mp fun q => e2 (Or.inr q)
  exact W.iald (v := .int (f i.toNatClampNeg)) C.1 C.2.1 q1 ((C.K.2.1 0 _ rfl).1 n (fun j => .int (f j))) (fun q => by cases q) (by show ¬ (i < 0 ∨ (arrV _ _ _).slots.size ≤ _); rw [arrV_size]; exact e2) (arrV_read _ _ hlt) rfl rfl d (kk H locs ls hl hM hS)
theorem ev_zald (C : CX X own nm cc nL ret) {a : Nat} {i : Int32} {x : Int32} (d : decode cc pc = .ok (.baload, 1)) (hv : aI 3 M a i = some x) (kk : EV X nL (pc + 1) l (.int x :: st) kc ks M) : EV X nL pc l (.int i :: .ref a :: st) kc ks M := by
  intro H locs ls hl hM hS
  obtain ⟨n, f, e1, e2, rfl⟩ := aI_spec hv
  obtain ⟨h8, q1⟩ := m_arr hM e1
  have hlt : i.toNatClampNeg < n := Nat.not_le.mp fun q => e2 (Or.inr q)
  exact W.zald (v := .int (f i.toNatClampNeg)) C.1 C.2.1 q1 ((C.K.2.1 3 _ rfl).1 n (fun j => .int (f j))) (fun q => by cases q) (by show ¬ (i < 0 ∨ (arrV _ _ _).slots.size ≤ _); rw [arrV_size]; exact e2) (arrV_read _ _ hlt) rfl rfl d (kk H locs ls hl hM hS)
theorem ev_bald (C : CX X own nm cc nL ret) {a : Nat} {i : Int32} {x : Int32} (d : decode cc pc = .ok (.baload, 1)) (hv : aI 4 M a i = some x) (kk : EV X nL (pc + 1) l (.int x :: st) kc ks M) : EV X nL pc l (.int i :: .ref a :: st) kc ks M := by
  intro H locs ls hl hM hS
  obtain ⟨n, f, e1, e2, rfl⟩ := aI_spec hv
  obtain ⟨h8, q1⟩ := m_arr hM e1
  have hlt : i.toNatClampNeg < n := Nat.not_le.mp fun q => e2 (Or.inr q)
  exact W.bald (v := .int (f i.toNatClampNeg)) C.1 C.2.1 q1 ((C.K.2.1 4 _ rfl).1 n (fun j => .int (f j))) (fun q => by cases q) (by show ¬ (i < 0 ∨ (arrV _ _ _).slots.size ≤ _); rw [arrV_size]; exact e2) (arrV_read _ _ hlt) rfl rfl d (kk H locs ls hl hM hS)
theorem ev_lald (C : CX X own nm cc nL ret) {a : Nat} {i : Int32} {x : Int64} (d : decode cc pc = .ok (.laload, 1)) (hv : aL M a i = some x) (kk : EV X nL (pc + 1) l (.long x :: st) kc ks M) : EV X nL pc l (.int i :: .ref a :: st) kc ks M := by
  intro H locs ls hl hM hS
  obtain ⟨n, f, e1, e2, rfl⟩ := aL_spec hv
  obtain ⟨h8, q1⟩ := m_arr hM e1
  have hlt : i.toNatClampNeg < n := Nat.not_le.mp fun q => e2 (Or.inr q)
  exact W.lald (v := .long (f i.toNatClampNeg)) C.1 C.2.1 q1 ((C.K.2.1 1 _ rfl).1 n (fun j => .long (f j))) (fun q => by cases q) (by show ¬ (i < 0 ∨ (arrV _ _ _).slots.size ≤ _); rw [arrV_size]; exact e2) (arrV_read _ _ hlt) rfl rfl d (kk H locs ls hl hM hS)
theorem ev_dald (C : CX X own nm cc nL ret) {a : Nat} {i : Int32} {x : UInt64} (d : decode cc pc = .ok (.daload, 1)) (hv : aD M a i = some x) (kk : EV X nL (pc + 1) l (.double x :: st) kc ks M) : EV X nL pc l (.int i :: .ref a :: st) kc ks M := by
  intro H locs ls hl hM hS
  obtain ⟨n, f, e1, e2, rfl⟩ := aD_spec hv
  obtain ⟨h8, q1⟩ := m_arr hM e1
  have hlt : i.toNatClampNeg < n := Nat.not_le.mp fun q => e2 (Or.inr q)
  exact W.dald (v := .double (f i.toNatClampNeg)) C.1 C.2.1 q1 ((C.K.2.1 2 _ rfl).1 n (fun j => .double (f j))) (fun q => by cases q) (by show ¬ (i < 0 ∨ (arrV _ _ _).slots.size ≤ _); rw [arrV_size]; exact e2) (arrV_read _ _ hlt) rfl rfl d (kk H locs ls hl hM hS)
theorem ev_iast (C : CX X own nm cc nL ret) {a : Nat} {i : Int32} {x : Int32} (d : decode cc pc = .ok (.iastore, 1)) (hv : uI 0 .int M a i x = some M2) (kk : EV X nL (pc + 1) l st kc ks M2) : EV X nL pc l (.int x :: .int i :: .ref a :: st) kc ks M := by
  intro H locs ls hl hM hS
  obtain ⟨n, f, e1, e2, rfl⟩ := uI_spec hv
  obtain ⟨h8, q1⟩ := m_arr hM e1
  refine W.iast C.1 C.2.1 q1 ((C.K.2.1 0 _ rfl).1 n (fun j => .int (f j))) (fun q => by cases q) (by show ¬ (i < 0 ∨ (arrV _ _ _).slots.size ≤ _); rw [arrV_size]; exact e2) rfl rfl d fun H1 g1 g2 g3 => ?_
  refine kk H1 _ ls hl (hM.set h8 e1 ?_ g2 g3) (hS.put g2 g3 (m_hiA h8))
  show H1[_]? = some (vp_cell _ (n, .inl (va_up f i.toNatClampNeg (vp_nar .int x))))
  rw [g1]
  show some ((vp_cell _ (n, .inl f)).setSlot _ _) = _
  rw [vp_cell_i, vp_cell_i, arrV_store]
  congr 2
  funext q
  by_cases hq : q = i.toNatClampNeg
  · subst hq
    simp [updV, va_up, vp_nar]
    try rfl
  · simp [updV, va_up, hq]
theorem ev_zast (C : CX X own nm cc nL ret) {a : Nat} {i : Int32} {x : Int32} (d : decode cc pc = .ok (.bastore, 1)) (hv : uI 3 .boolean M a i x = some M2) (kk : EV X nL (pc + 1) l st kc ks M2) : EV X nL pc l (.int x :: .int i :: .ref a :: st) kc ks M := by
  intro H locs ls hl hM hS
  obtain ⟨n, f, e1, e2, rfl⟩ := uI_spec hv
  obtain ⟨h8, q1⟩ := m_arr hM e1
  refine W.zast C.1 C.2.1 q1 ((C.K.2.1 3 _ rfl).1 n (fun j => .int (f j))) (fun q => by cases q) (by show ¬ (i < 0 ∨ (arrV _ _ _).slots.size ≤ _); rw [arrV_size]; exact e2) rfl rfl d fun H1 g1 g2 g3 => ?_
  refine kk H1 _ ls hl (hM.set h8 e1 ?_ g2 g3) (hS.put g2 g3 (m_hiA h8))
  show H1[_]? = some (vp_cell _ (n, .inl (va_up f i.toNatClampNeg (vp_nar .boolean x))))
  rw [g1]
  show some ((vp_cell _ (n, .inl f)).setSlot _ _) = _
  rw [vp_cell_i, vp_cell_i, arrV_store]
  congr 2
  funext q
  by_cases hq : q = i.toNatClampNeg
  · subst hq
    simp [updV, va_up, vp_nar]
    try rfl
  · simp [updV, va_up, hq]
theorem ev_bast (C : CX X own nm cc nL ret) {a : Nat} {i : Int32} {x : Int32} (d : decode cc pc = .ok (.bastore, 1)) (hv : uI 4 .byte M a i x = some M2) (kk : EV X nL (pc + 1) l st kc ks M2) : EV X nL pc l (.int x :: .int i :: .ref a :: st) kc ks M := by
  intro H locs ls hl hM hS
  obtain ⟨n, f, e1, e2, rfl⟩ := uI_spec hv
  obtain ⟨h8, q1⟩ := m_arr hM e1
  refine W.bast C.1 C.2.1 q1 ((C.K.2.1 4 _ rfl).1 n (fun j => .int (f j))) (fun q => by cases q) (by show ¬ (i < 0 ∨ (arrV _ _ _).slots.size ≤ _); rw [arrV_size]; exact e2) rfl rfl d fun H1 g1 g2 g3 => ?_
  refine kk H1 _ ls hl (hM.set h8 e1 ?_ g2 g3) (hS.put g2 g3 (m_hiA h8))
  show H1[_]? = some (vp_cell _ (n, .inl (va_up f i.toNatClampNeg (vp_nar .byte x))))
  rw [g1]
  show some ((vp_cell _ (n, .inl f)).setSlot _ _) = _
  rw [vp_cell_i, vp_cell_i, arrV_store]
  congr 2
  funext q
  by_cases hq : q = i.toNatClampNeg
  · subst hq
    simp [updV, va_up, vp_nar]
    try rfl
  · simp [updV, va_up, hq]
theorem ev_last (C : CX X own nm cc nL ret) {a : Nat} {i : Int32} {x : Int64} (d : decode cc pc = .ok (.lastore, 1)) (hv : uL M a i x = some M2) (kk : EV X nL (pc + 1) l st kc ks M2) : EV X nL pc l (.long x :: .int i :: .ref a :: st) kc ks M := by
  intro H locs ls hl hM hS
  obtain ⟨n, f, e1, e2, rfl⟩ := uL_spec hv
  obtain ⟨h8, q1⟩ := m_arr hM e1
  refine W.last C.1 C.2.1 q1 ((C.K.2.1 1 _ rfl).1 n (fun j => .long (f j))) (fun q => by cases q) (by show ¬ (i < 0 ∨ (arrV _ _ _).slots.size ≤ _); rw [arrV_size]; exact e2) rfl rfl d fun H1 g1 g2 g3 => ?_
  refine kk H1 _ ls hl (hM.set h8 e1 ?_ g2 g3) (hS.put g2 g3 (m_hiA h8))
  show H1[_]? = some (vp_cell _ (n, .inr (.inl (va_up f i.toNatClampNeg x))))
  rw [g1]
  show some ((vp_cell _ (n, .inr (.inl f))).setSlot _ _) = _
  rw [vp_cell_l, vp_cell_l, arrV_store]
  congr 2
  funext q
  by_cases hq : q = i.toNatClampNeg
  · subst hq
    simp [updV, va_up]
    try rfl
  · simp [updV, va_up, hq]
theorem ev_dast (C : CX X own nm cc nL ret) {a : Nat} {i : Int32} {x : UInt64} (d : decode cc pc = .ok (.dastore, 1)) (hv : uD M a i x = some M2) (kk : EV X nL (pc + 1) l st kc ks M2) : EV X nL pc l (.double x :: .int i :: .ref a :: st) kc ks M := by
  intro H locs ls hl hM hS
  obtain ⟨n, f, e1, e2, rfl⟩ := uD_spec hv
  obtain ⟨h8, q1⟩ := m_arr hM e1
  refine W.dast C.1 C.2.1 q1 ((C.K.2.1 2 _ rfl).1 n (fun j => .double (f j))) (fun q => by cases q) (by show ¬ (i < 0 ∨ (arrV _ _ _).slots.size ≤ _); rw [arrV_size]; exact e2) rfl rfl d fun H1 g1 g2 g3 => ?_
  refine kk H1 _ ls hl (hM.set h8 e1 ?_ g2 g3) (hS.put g2 g3 (m_hiA h8))
  show H1[_]? = some (vp_cell _ (n, .inr (.inr (.inr (.inl (va_up f i.toNatClampNeg x))))))
  rw [g1]
  show some ((vp_cell _ (n, .inr (.inr (.inr (.inl f))))).setSlot _ _) = _
  rw [vp_cell_d, vp_cell_d, arrV_store]
  congr 2
  funext q
  by_cases hq : q = i.toNatClampNeg
  · subst hq
    simp [updV, va_up]
    try rfl
  · simp [updV, va_up, hq]
theorem m_rf (f : Nat → Nat) (r : Option Nat) : m_v f (va_rf r) = va_rf (r.map f) := by cases r <;> rfl
theorem ev_aldq (C : CX X own nm cc nL ret) {a t : Nat} {ty : FieldType} (ht : tyl[t]? = some ty) (hty : ty.isReference = true) {i : Int32} {x : Option Nat} (d : decode cc pc = .ok (.aaload, 1)) (hv : aQ t M a i = some x) (kk : EV X nL (pc + 1) l (va_rf x :: st) kc ks M) : EV X nL pc l (.int i :: .ref a :: st) kc ks M := by
  intro H locs ls hl hM hS
  obtain ⟨n, f, e1, e2, rfl⟩ := aQ_spec hv
  obtain ⟨h8, q1⟩ := m_arr hM e1
  have hlt : i.toNatClampNeg < n := Nat.not_le.mp fun q => e2 (Or.inr q)
  have hk := kk H locs ls hl hM hS
  rw [List.map_cons, m_rf] at hk
  exact W.aald (v := va_rf ((f i.toNatClampNeg).map (xf X))) (ty := ty) C.1 C.2.1 q1 ((C.K.2.1 t _ ht).1 n (fun j => va_rf ((f j).map (xf X)))) hty (fun q => by cases q) (by show ¬ (i < 0 ∨ (arrV _ _ _).slots.size ≤ _); rw [arrV_size]; exact e2) (arrV_read _ _ hlt) rfl rfl d hk
theorem ev_aldr (C : CX X own nm cc nL ret) {a t : Nat} {ty : FieldType} (ht : tyl[t]? = some ty) (hty : ty.isReference = true) {i : Int32} {x : Nat} (d : decode cc pc = .ok (.aaload, 1)) (hv : aR t M a i = some x) (kk : EV X nL (pc + 1) l (.ref x :: st) kc ks M) : EV X nL pc l (.int i :: .ref a :: st) kc ks M := ev_aldq C ht hty d (aR_Q hv) kk
theorem ev_astq (C : CX X own nm cc nL ret) {a t ci : Nat} {r : vw_C} (ht : tyl[t]? = some (.object r.1)) (hc : vwCl[ci]? = some r) {i : Int32} {x : Option Nat} (d : decode cc pc = .ok (.aastore, 1)) (hv : uQ t ci M a i x = some M2) (kk : EV X nL (pc + 1) l st kc ks M2) : EV X nL pc l (va_rf x :: .int i :: .ref a :: st) kc ks M := by
  intro H locs ls hl hM hS
  obtain ⟨n, f, e1, e2, rfl, e3⟩ := uQ_spec hv
  obtain ⟨h8, q1⟩ := m_arr hM e1
  have hlt : i.toNatClampNeg < n := Nat.not_le.mp fun q => e2 (Or.inr q)
  have h0 : ¬ i < 0 := fun q => e2 (Or.inl q)
  have fin : ∀ H1 : Heap, H1[xf X a]? = some ((vp_cell ((xw X).2.1 t) (n, .inr (.inr (.inr (.inr (fun j => (f j).map (xf X))))))).setSlot i.toNatClampNeg (va_rf (x.map (xf X)))) → H1.size = H.size → (∀ q, q ≠ xf X a → H1[q]? = H[q]?) → ∀ locs1, va_S (xA X) (xs X).heap H1 locs1 → WX X H1 locs1 kc ks (F0 (xm X) (pc + 1) ls (st.map (m_v (xf X)))) := by
    intro H1 g1 g2 g3 locs1 hS1
    refine kk H1 _ ls hl (hM.set h8 e1 ?_ g2 g3) hS1
    show H1[_]? = some (vp_cell _ (n, .inr (.inr (.inr (.inr (fun j => (va_up f i.toNatClampNeg x j).map (xf X)))))))
    rw [g1, vp_cell_q, vp_cell_q, arrV_store]
    congr 2
    funext q
    by_cases hq : q = i.toNatClampNeg
    · subst hq
      simp [updV, va_up]
    · simp [updV, va_up, hq]
  rcases e3 with rfl | ⟨y, fs, rfl, e4⟩
  · exact va_WaastN (C := r.1) C.1 C.2.1 q1 ((C.K.2.1 t _ ht).1 n (fun j => va_rf ((f j).map (xf X)))) (fun h => by cases h) (by show ¬ (i < 0 ∨ (arrV _ _ _).slots.size ≤ _); rw [arrV_size]; exact e2) rfl rfl d fun H1 g1 g2 g3 => fin H1 g1 g2 g3 _ (hS.put g2 g3 (m_hiA h8))
  · obtain ⟨Cr, Tr, Nr⟩ := r
    obtain ⟨h8y, cellV, p1, p2, p3, -⟩ := m_obj hM e4 hc
    have hcls := (C.K.1 ci _ hc).2
    obtain ⟨kA, comp, k1, k2, k3, -⟩ := (C.K.2.1 t _ ht).2
    have hcomp : comp = (xw X).1.1 ci := Option.some.inj (k3.symm.trans hcls.1)
    subst hcomp
    obtain ⟨kC, hkC, -⟩ := hcls.2
    exact W.aast C.1 C.2.1 q1 (fun q h => by cases h) (fun h => by cases h) k1 k2 rfl hkC ⟨h0, by show _ < (arrV _ _ _).slots.size; rw [arrV_size]; exact hlt⟩ p1 (fun q h => by rw [p3] at h; cases h) (by rw [p2]; exact hkC) (by rw [p2]; exact va_assign hcls) rfl rfl d fun H1 g1 g2 g3 => fin H1 g1 g2 g3 _ (hS.put g2 g3 (m_hiA h8))
theorem ev_astr (C : CX X own nm cc nL ret) {a t ci : Nat} {r : vw_C} (ht : tyl[t]? = some (.object r.1)) (hc : vwCl[ci]? = some r) {i : Int32} {x : Nat} (d : decode cc pc = .ok (.aastore, 1)) (hv : uQ t ci M a i (some x) = some M2) (kk : EV X nL (pc + 1) l st kc ks M2) : EV X nL pc l (.ref x :: .int i :: .ref a :: st) kc ks M := ev_astq C ht hc d hv kk
-- making
theorem m_pushS {w : mW} {H0 H H1 : Heap} {locs : List Loc} (hS : va_S (fun q => w.2.2.2.2 ≤ q) H0 H locs) (z1 : H1.size = H.size + 1) (o1 : ∀ q : Nat, q < H.size → H1[q]? = H[q]?) : va_S (fun q => w.2.2.2.2 ≤ q) H0 H1 locs :=
  ⟨Nat.le_trans hS.1 (by omega), fun x h1 h2 => (o1 x (Nat.lt_of_lt_of_le h1 hS.1)).trans (hS.2.1 x h1 h2), hS.2.2⟩
theorem ev_new (C : CX X own nm cc nL ret) (K : clOK Cn T N ci ty) {idx : Nat} {fs : List Value} (d : decode cc pc = .ok (.new idx, 3)) (h1 : Cond.classLink own idx Cn ∈ lw_all) (h2 : Cond.instantiable Cn N ∈ lw_all) (h3 : Cond.initialized Cn ∈ lw_all) (hfs : ∀ j, j < N → defaultValue (ty j) = vp_V (fs.map (m_v (xf X))) j) (hcells : kc + 1 ≤ (xR X).cells) (hslots : ks + N ≤ (xR X).slots) (kk : EV X nL (pc + 3) l (.ref M.length :: st) (kc + 1) (ks + N) (M ++ [.inr (ci, fs)])) : EV X nL pc l st kc ks M := by
  intro H locs ls hl hM hS
  have hKn := C.K.1 ci _ K.1
  refine W.newcK C.1 C.2.1 C.own (C.ts _ h1) (C.ts _ h2) (C.ts _ h3) rfl d hcells hslots hKn.2.1 rfl fun H1 kC hkC e1 z1 o1 => ?_
  have hnew := hM.new
  have k9 := kk H1 locs ls hl (hM.push ⟨_, K.1, ?_⟩ z1 o1) (m_pushS hS z1 o1)
  · rw [List.map_cons] at k9
    show WX X H1 locs (kc + 1) (ks + N) (F0 (xm X) (pc + 3) ls (.ref H.size :: _))
    rw [← hnew]
    exact k9
  · rw [hnew]
    exact (u_born ty C.ts K.2.1 hKn hkC e1 K.2.2.1).to hfs
theorem ev_newa_i (C : CX X own nm cc nL ret) {n : Int32} {N : Nat} (d : decode cc pc = .ok (.newarray .int, 2)) (h1 : Cond.arrayClass .int ∈ lw_all) (hn : ¬ n < 0) (hN : n.toNatClampNeg = N) (hb : N ≤ 60000000) (hcells : kc + 1 ≤ (xR X).cells) (hslots : ks + N ≤ (xR X).slots) (kk : EV X nL (pc + 2) l (.ref M.length :: st) (kc + 1) (ks + N) (M ++ [.inl (0, N, .inl (fun _ => 0))])) : EV X nL pc l (.int n :: st) kc ks M := by
  intro H locs ls hl hM hS
  refine va_newaK (atype := .int) C.1 C.2.1 (C.ts _ h1) rfl d rfl hn hN (by show N * _ ≤ _; simp only [newarray.typeOf, componentBytes]; omega) hcells hslots rfl fun H1 cA e1 z1 o1 hAr hNm => ?_
  have hnew := hM.new
  have hcA : cA = (xw X).2.1 0 := Option.some.inj (hNm.symm.trans (C.K.2.1 0 _ rfl).2)
  subst hcA
  have k9 := kk H1 locs ls hl (hM.push ?_ z1 o1) (m_pushS hS z1 o1)
  · rw [List.map_cons] at k9
    show WX X H1 locs (kc + 1) (ks + N) (F0 (xm X) (pc + 2) ls (.ref H.size :: _))
    rw [← hnew]
    exact k9
  · show H1[m_f (xw X) M.length]? = some (vp_cell _ _)
    rw [hnew]
    exact e1
theorem ev_newa_j (C : CX X own nm cc nL ret) {n : Int32} {N : Nat} (d : decode cc pc = .ok (.newarray .long, 2)) (h1 : Cond.arrayClass .long ∈ lw_all) (hn : ¬ n < 0) (hN : n.toNatClampNeg = N) (hb : N ≤ 60000000) (hcells : kc + 1 ≤ (xR X).cells) (hslots : ks + N ≤ (xR X).slots) (kk : EV X nL (pc + 2) l (.ref M.length :: st) (kc + 1) (ks + N) (M ++ [.inl (1, N, .inr (.inl (fun _ => 0)))])) : EV X nL pc l (.int n :: st) kc ks M := by
  intro H locs ls hl hM hS
  refine va_newaK (atype := .long) C.1 C.2.1 (C.ts _ h1) rfl d rfl hn hN (by show N * _ ≤ _; simp only [newarray.typeOf, componentBytes]; omega) hcells hslots rfl fun H1 cA e1 z1 o1 hAr hNm => ?_
  have hnew := hM.new
  have hcA : cA = (xw X).2.1 1 := Option.some.inj (hNm.symm.trans (C.K.2.1 1 _ rfl).2)
  subst hcA
  have k9 := kk H1 locs ls hl (hM.push ?_ z1 o1) (m_pushS hS z1 o1)
  · rw [List.map_cons] at k9
    show WX X H1 locs (kc + 1) (ks + N) (F0 (xm X) (pc + 2) ls (.ref H.size :: _))
    rw [← hnew]
    exact k9
  · show H1[m_f (xw X) M.length]? = some (vp_cell _ _)
    rw [hnew]
    exact e1
theorem ev_newa_d (C : CX X own nm cc nL ret) {n : Int32} {N : Nat} (d : decode cc pc = .ok (.newarray .double, 2)) (h1 : Cond.arrayClass .double ∈ lw_all) (hn : ¬ n < 0) (hN : n.toNatClampNeg = N) (hb : N ≤ 60000000) (hcells : kc + 1 ≤ (xR X).cells) (hslots : ks + N ≤ (xR X).slots) (kk : EV X nL (pc + 2) l (.ref M.length :: st) (kc + 1) (ks + N) (M ++ [.inl (2, N, .inr (.inr (.inr (.inl (fun _ => 0)))))])) : EV X nL pc l (.int n :: st) kc ks M := by
  intro H locs ls hl hM hS
  refine va_newaK (atype := .double) C.1 C.2.1 (C.ts _ h1) rfl d rfl hn hN (by show N * _ ≤ _; simp only [newarray.typeOf, componentBytes]; omega) hcells hslots rfl fun H1 cA e1 z1 o1 hAr hNm => ?_
  have hnew := hM.new
  have hcA : cA = (xw X).2.1 2 := Option.some.inj (hNm.symm.trans (C.K.2.1 2 _ rfl).2)
  subst hcA
  have k9 := kk H1 locs ls hl (hM.push ?_ z1 o1) (m_pushS hS z1 o1)
  · rw [List.map_cons] at k9
    show WX X H1 locs (kc + 1) (ks + N) (F0 (xm X) (pc + 2) ls (.ref H.size :: _))
    rw [← hnew]
    exact k9
  · show H1[m_f (xw X) M.length]? = some (vp_cell _ _)
    rw [hnew]
    exact e1
theorem ev_newa_z (C : CX X own nm cc nL ret) {n : Int32} {N : Nat} (d : decode cc pc = .ok (.newarray .boolean, 2)) (h1 : Cond.arrayClass .boolean ∈ lw_all) (hn : ¬ n < 0) (hN : n.toNatClampNeg = N) (hb : N ≤ 60000000) (hcells : kc + 1 ≤ (xR X).cells) (hslots : ks + N ≤ (xR X).slots) (kk : EV X nL (pc + 2) l (.ref M.length :: st) (kc + 1) (ks + N) (M ++ [.inl (3, N, .inl (fun _ => 0))])) : EV X nL pc l (.int n :: st) kc ks M := by
  intro H locs ls hl hM hS
  refine va_newaK (atype := .boolean) C.1 C.2.1 (C.ts _ h1) rfl d rfl hn hN (by show N * _ ≤ _; simp only [newarray.typeOf, componentBytes]; omega) hcells hslots rfl fun H1 cA e1 z1 o1 hAr hNm => ?_
  have hnew := hM.new
  have hcA : cA = (xw X).2.1 3 := Option.some.inj (hNm.symm.trans (C.K.2.1 3 _ rfl).2)
  subst hcA
  have k9 := kk H1 locs ls hl (hM.push ?_ z1 o1) (m_pushS hS z1 o1)
  · rw [List.map_cons] at k9
    show WX X H1 locs (kc + 1) (ks + N) (F0 (xm X) (pc + 2) ls (.ref H.size :: _))
    rw [← hnew]
    exact k9
  · show H1[m_f (xw X) M.length]? = some (vp_cell _ _)
    rw [hnew]
    exact e1
theorem ev_newa_b (C : CX X own nm cc nL ret) {n : Int32} {N : Nat} (d : decode cc pc = .ok (.newarray .byte, 2)) (h1 : Cond.arrayClass .byte ∈ lw_all) (hn : ¬ n < 0) (hN : n.toNatClampNeg = N) (hb : N ≤ 60000000) (hcells : kc + 1 ≤ (xR X).cells) (hslots : ks + N ≤ (xR X).slots) (kk : EV X nL (pc + 2) l (.ref M.length :: st) (kc + 1) (ks + N) (M ++ [.inl (4, N, .inl (fun _ => 0))])) : EV X nL pc l (.int n :: st) kc ks M := by
  intro H locs ls hl hM hS
  refine va_newaK (atype := .byte) C.1 C.2.1 (C.ts _ h1) rfl d rfl hn hN (by show N * _ ≤ _; simp only [newarray.typeOf, componentBytes]; omega) hcells hslots rfl fun H1 cA e1 z1 o1 hAr hNm => ?_
  have hnew := hM.new
  have hcA : cA = (xw X).2.1 4 := Option.some.inj (hNm.symm.trans (C.K.2.1 4 _ rfl).2)
  subst hcA
  have k9 := kk H1 locs ls hl (hM.push ?_ z1 o1) (m_pushS hS z1 o1)
  · rw [List.map_cons] at k9
    show WX X H1 locs (kc + 1) (ks + N) (F0 (xm X) (pc + 2) ls (.ref H.size :: _))
    rw [← hnew]
    exact k9
  · show H1[m_f (xw X) M.length]? = some (vp_cell _ _)
    rw [hnew]
    exact e1
theorem ev_newq (C : CX X own nm cc nL ret) {Cq : String} {n : Int32} {N t idx : Nat} (ht : tyl[t]? = some (.object Cq)) (d : decode cc pc = .ok (.anewarray idx, 3)) (h1 : Cond.classLink own idx Cq ∈ lw_all) (hover : va_AO Cq (xs X)) (hn : ¬ n < 0) (hN : n.toNatClampNeg = N) (hb : N ≤ 60000000) (hcells : kc + 1 ≤ (xR X).cells) (hslots : ks + N ≤ (xR X).slots) (kk : EV X nL (pc + 3) l (.ref M.length :: st) (kc + 1) (ks + N) (M ++ [.inl (t, N, .inr (.inr (.inr (.inr (fun _ => none)))))])) : EV X nL pc l (.int n :: st) kc ks M := by
  intro H locs ls hl hM hS
  subst hN
  refine W.anew C.1 C.2.1 C.own (C.ts _ h1) (va_AO.use hover) rfl d rfl hn (by omega) hcells hslots fun cA kA comp f1 f2 f3 f4 => ?_
  generalize hH1 : H.push ({ cls := cA, slots := Array.replicate n.toNatClampNeg .null, vm := .none } : Cell) = H1
  have z1 : H1.size = H.size + 1 := by rw [← hH1, Array.size_push]
  have e1 : H1[H.size]? = some (arrV cA n.toNatClampNeg (fun _ => .null)) := by rw [← hH1, Array.getElem?_push_size, ← arrV_new]
  have o1 : ∀ q : Nat, q < H.size → H1[q]? = H[q]? := fun q hq => by rw [← hH1, Array.getElem?_push, if_neg (Nat.ne_of_lt hq)]
  have hnew := hM.new
  obtain ⟨kA2, comp2, -, -, -, g4⟩ := (C.K.2.1 t _ ht).2
  have hcA : cA = (xw X).2.1 t := Option.some.inj (f1.symm.trans g4)
  subst hcA
  have k9 := kk H1 locs ls hl (hM.push ?_ z1 o1) (m_pushS hS z1 o1)
  · rw [List.map_cons] at k9
    show WX X H1 locs (kc + 1) (ks + n.toNatClampNeg) (F0 (xm X) (pc + 3) ls (.ref H.size :: _))
    rw [← hnew]
    exact k9
  · show H1[m_f (xw X) M.length]? = some (vp_cell _ _)
    rw [hnew]
    exact e1
theorem ev_null (C : CX X own nm cc nL ret) (d : decode cc pc = .ok (.aconst_null, 1)) (k : EV X nL (pc + 1) l (.null :: st) kc ks M) : EV X nL pc l st kc ks M := fun H locs ls hl hM hS => lv_null C.1 C.2.1 d (k H locs ls hl hM hS)
-- statics
theorem m_zf (w : mW) {k : Nat} (h : k < 9) : m_f w k = w.2.2.1 k := if_pos h
theorem ev_sKinds (C : CX X own nm cc nL ret) {idx : Nat} (h : Cond.fieldLink own idx "FareLimits" "KINDS" "[LFareLimits$Kind;" ∈ lw_all) (d : decode cc pc = .ok (.getstatic idx, 3)) (k : EV X nL (pc + 3) l (.ref 4 :: st) kc ks M) : EV X nL pc l st kc ks M := fun H locs ls hl hM hS => va_gets C.1 C.2.1 C.S.2.1 hS C.own (C.ts _ h) (fun _ h => h) d (k H locs ls hl hM hS)
theorem ev_sKindsN (C : CX X "FareLimits$Kind" nm cc nL ret) (d : decode cc pc = .ok (.getstatic 47, 3)) (k : EV X nL (pc + 3) l (.ref 4 :: st) kc ks M) : EV X nL pc l st kc ks M := fun H locs ls hl hM hS => va_getsN C.1 C.2.1 C.S.2.1 hS C.own C.K.2.2.1.2.2.2.2.2.2.2.2.2 (fun _ h => h) d (k H locs ls hl hM hS)
theorem ev_sMost (C : CX X own nm cc nL ret) {idx : Nat} (h : Cond.fieldLink own idx "FareLimits" "MOST_OF_A_RULE" "[I" ∈ lw_all) (d : decode cc pc = .ok (.getstatic idx, 3)) (k : EV X nL (pc + 3) l (.ref 5 :: st) kc ks M) : EV X nL pc l st kc ks M := fun H locs ls hl hM hS => va_gets C.1 C.2.1 C.S.2.2.2.1 hS C.own (C.ts _ h) (fun _ h => h) d (k H locs ls hl hM hS)
theorem ev_sFare (C : CX X own nm cc nL ret) {idx : Nat} (h : Cond.fieldLink own idx "FareLimits$Kind" "FARE" "LFareLimits$Kind;" ∈ lw_all) (d : decode cc pc = .ok (.getstatic idx, 3)) (k : EV X nL (pc + 3) l (.ref 0 :: st) kc ks M) : EV X nL pc l st kc ks M := fun H locs ls hl hM hS => va_gets C.1 C.2.1 (C.S.1.1 0 (by decide)).1 hS C.own (C.ts _ h) (fun _ h => h) d (k H locs ls hl hM hS)
theorem ev_sCompact (C : CX X own nm cc nL ret) {idx : Nat} (h : Cond.fieldLink own idx "java/lang/String" "COMPACT_STRINGS" "Z" ∈ lw_all) (d : decode cc pc = .ok (.getstatic idx, 3)) (k : EV X nL (pc + 3) l (.int 1 :: st) kc ks M) : EV X nL pc l st kc ks M := fun H locs ls hl hM hS => va_gets C.1 C.2.1 C.S.2.2.2.2.2.1 hS C.own (C.ts _ h) (fun _ h => h) d (k H locs ls hl hM hS)
theorem ev_sDgO (C : CX X own nm cc nL ret) {idx : Nat} (h : Cond.fieldLink own idx "java/lang/Integer" "DigitOnes" "[B" ∈ lw_all) (d : decode cc pc = .ok (.getstatic idx, 3)) (k : EV X nL (pc + 3) l (.ref 6 :: st) kc ks M) : EV X nL pc l st kc ks M := fun H locs ls hl hM hS => va_gets C.1 C.2.1 C.S.2.2.2.2.2.2.1 hS C.own (C.ts _ h) (fun _ h => h) d (k H locs ls hl hM hS)
theorem ev_sDgT (C : CX X own nm cc nL ret) {idx : Nat} (h : Cond.fieldLink own idx "java/lang/Integer" "DigitTens" "[B" ∈ lw_all) (d : decode cc pc = .ok (.getstatic idx, 3)) (k : EV X nL (pc + 3) l (.ref 7 :: st) kc ks M) : EV X nL pc l st kc ks M := fun H locs ls hl hM hS => va_gets C.1 C.2.1 C.S.2.2.2.2.2.2.2.2.1 hS C.own (C.ts _ h) (fun _ h => h) d (k H locs ls hl hM hS)
theorem ev_zlenK (C : CX X own nm cc nL ret) (d : decode cc pc = .ok (.arraylength, 1)) (k : EV X nL (pc + 1) l (.int 4 :: st) kc ks M) : EV X nL pc l (.ref 4 :: st) kc ks M := fun H locs ls hl hM hS => va_tlen C.1 C.2.1 C.S.2.2.1 hS rfl d (k H locs ls hl hM hS)
theorem ev_zKinds (C : CX X own nm cc nL ret) {i : Int32} {x : Nat} (d : decode cc pc = .ok (.aaload, 1)) (hv : zKinds i = some x) (k : EV X nL (pc + 1) l (.ref x :: st) kc ks M) : EV X nL pc l (.int i :: .ref 4 :: st) kc ks M := fun H locs ls hl hM hS => by
  unfold zKinds at hv
  split at hv
  · cases hv
  · next e =>
    cases hv
    have hlt : i.toNatClampNeg < 4 := Nat.not_le.mp fun q => e (Or.inr q)
    have k9 := k H locs ls hl hM hS
    rw [List.map_cons] at k9
    exact vb_tq C.1 C.2.1 C.S.2.2.1 hS e (show _ = m_v (xf X) (.ref i.toNatClampNeg) from congrArg Value.ref (m_zf _ (by omega)).symm) d k9
theorem ev_zMost (C : CX X own nm cc nL ret) {i : Int32} {x : Int32} (d : decode cc pc = .ok (.iaload, 1)) (hv : zMost i = some x) (k : EV X nL (pc + 1) l (.int x :: st) kc ks M) : EV X nL pc l (.int i :: .ref 5 :: st) kc ks M := fun H locs ls hl hM hS => by
  unfold zMost at hv
  split at hv
  · cases hv
  · next e =>
    cases hv
    exact va_ti C.1 C.2.1 C.S.2.2.2.2.1 hS e rfl d (k H locs ls hl hM hS)
theorem ev_zDgO (C : CX X own nm cc nL ret) {i : Int32} {x : Int32} (d : decode cc pc = .ok (.baload, 1)) (hv : zDgO i = some x) (k : EV X nL (pc + 1) l (.int x :: st) kc ks M) : EV X nL pc l (.int i :: .ref 6 :: st) kc ks M := fun H locs ls hl hM hS => by
  unfold zDgO at hv
  split at hv
  · cases hv
  · next e =>
    cases hv
    exact va_tb C.1 C.2.1 C.S.2.2.2.2.2.2.2.1 hS e rfl d (k H locs ls hl hM hS)
theorem ev_zDgT (C : CX X own nm cc nL ret) {i : Int32} {x : Int32} (d : decode cc pc = .ok (.baload, 1)) (hv : zDgT i = some x) (k : EV X nL (pc + 1) l (.int x :: st) kc ks M) : EV X nL pc l (.int i :: .ref 7 :: st) kc ks M := fun H locs ls hl hM hS => by
  unfold zDgT at hv
  split at hv
  · cases hv
  · next e =>
    cases hv
    exact va_tb C.1 C.2.1 C.S.2.2.2.2.2.2.2.2.2.1 hS e rfl d (k H locs ls hl hM hS)
theorem ev_zK0 (C : CX X own nm cc nL ret) {a idx : Nat} {x : Int32} (h : Cond.fieldLink own idx "FareLimits$Kind" "number" "I" ∈ lw_all) (d : decode cc pc = .ok (.getfield idx, 3)) (hv : zK0 a = some x) (k : EV X nL (pc + 3) l (.int x :: st) kc ks M) : EV X nL pc l (.ref a :: st) kc ks M := fun H locs ls hl hM hS => by
  unfold zK0 zK at hv
  split at hv
  · next e =>
    cases hv
    show WX X H locs kc ks (F0 (xm X) pc ls (.ref (m_f (xw X) a) :: _))
    rw [m_zf _ (by omega)]
    exact va_getE C.1 C.2.1 C.S.1 (i := a) e hS C.own (q := kF[0]) (by simp [kF]) (C.ts _ h) (fun _ h => h) d (k H locs ls hl hM hS)
  · cases hv
theorem ev_zK1 (C : CX X own nm cc nL ret) {a idx : Nat} {x : Int32} (h : Cond.fieldLink own idx "FareLimits$Kind" "above" "I" ∈ lw_all) (d : decode cc pc = .ok (.getfield idx, 3)) (hv : zK1 a = some x) (k : EV X nL (pc + 3) l (.int x :: st) kc ks M) : EV X nL pc l (.ref a :: st) kc ks M := fun H locs ls hl hM hS => by
  unfold zK1 zK at hv
  split at hv
  · next e =>
    cases hv
    show WX X H locs kc ks (F0 (xm X) pc ls (.ref (m_f (xw X) a) :: _))
    rw [m_zf _ (by omega)]
    exact va_getE C.1 C.2.1 C.S.1 (i := a) e hS C.own (q := kF[1]) (by simp [kF]) (C.ts _ h) (fun _ h => h) d (k H locs ls hl hM hS)
  · cases hv
theorem ev_zK2 (C : CX X own nm cc nL ret) {a idx : Nat} {x : Int32} (h : Cond.fieldLink own idx "FareLimits$Kind" "quartersKept" "I" ∈ lw_all) (d : decode cc pc = .ok (.getfield idx, 3)) (hv : zK2 a = some x) (k : EV X nL (pc + 3) l (.int x :: st) kc ks M) : EV X nL pc l (.ref a :: st) kc ks M := fun H locs ls hl hM hS => by
  unfold zK2 zK at hv
  split at hv
  · next e =>
    cases hv
    show WX X H locs kc ks (F0 (xm X) pc ls (.ref (m_f (xw X) a) :: _))
    rw [m_zf _ (by omega)]
    exact va_getE C.1 C.2.1 C.S.1 (i := a) e hS C.own (q := kF[2]) (by simp [kF]) (C.ts _ h) (fun _ h => h) d (k H locs ls hl hM hS)
  · cases hv
theorem ev_sFmt (C : CX X own nm cc nL ret) {idx : Nat} (h : Cond.fieldLink own idx "jdk/internal/util/Preconditions" "SIOOBE_FORMATTER" "Ljava/util/function/BiFunction;" ∈ lw_all) (d : decode cc pc = .ok (.getstatic idx, 3)) (k : EV X nL (pc + 3) l (.retAddr 0 :: st) kc ks M) : EV X nL pc l st kc ks M := fun H locs ls hl hM hS => va_gets C.1 C.2.1 C.S.2.2.2.2.2.2.2.2.2.2 hS C.own (C.ts _ h) (fun _ h => h) d (k H locs ls hl hM hS)
end EVM
end
section
theorem m_nst.same {s U : State} (hv : s.vm = U.vm) (h : m_nst s) : m_nst U := by
  obtain ⟨a1, a2, a3, a4, a5, a6, a7, a8, a9, b1⟩ := h
  exact ⟨a1.same rfl hv, a2.same rfl hv, a3.same rfl hv, a4.same rfl hv, a5.same rfl hv, a6.same rfl hv, a7.same rfl hv, a8.same rfl hv, a9.same rfl hv, b1.same rfl hv⟩
theorem m_alike {s U : State} (hv : s.vm = U.vm) : s.vm.Alike U.vm := hv ▸ Vm.Alike.refl s.vm
theorem m_K.same {w : mW} {s U : State} (hv : s.vm = U.vm) (h : m_K w s) : m_K w U := by
  obtain ⟨h1, h2, h3, h4, h5⟩ := h
  have hvm := m_alike hv
  exact ⟨fun c q hq => u_Kn_moved hvm (h1 c q hq), fun t ty ht => ⟨arrOfT_moved hvm (h2 t ty ht).1, (h2 t ty ht).2.moved hvm⟩, h3.same hv, ⟨h4.1.moved hvm, h4.2.1.moved hvm, h4.2.2.moved hvm⟩, h5⟩
/-- what a method's run comes to: the answer r, the memory M2; nothing that was there before the base changes -/
def mQ (w : mW) (r : Option Value) (M2 : mM) : State → Outcome → State → Prop := fun st oc t => oc = .returned (r.map (m_v (m_f w))) ∧ m_At w M2 t.heap ∧ va_F (fun q => w.2.2.2.2 ≤ q) st t
/-- a method's contract at given arguments and memory -/
def CT (l : Launch) (y : MethodName) (bytes : ByteArray) (maxL : Nat) (ret : Option FieldType) (fr lo mc ms : Nat) (As : List Value) (M : mM) (r : Option Value) (M2 : mM) : Prop :=
  ∀ w : mW, Met l y (Cond.code y bytes maxL ret :: lw_all) ({ frames := fr, cells := mc, slots := ms, locals := lo }) (va_Pc (As.map (m_v (m_f w))) (m_In w M)) (fun _ => mQ w r M2) mc ms (fun q => w.2.2.2.2 ≤ q)
/-- the frame's room, and what it is to come to -/
def EX (X : mX) (l : Launch) (fr lo mc ms : Nat) (r : Option Value) (M2 : mM) : Prop := X.1.2.1 = l ∧ xR X = { frames := fr, cells := mc, slots := ms, locals := lo } ∧ X.2.2.1 = MQ X.2.1.2.1 (fun _ => mQ (xw X) r M2) X.2.1.1 (xs X) mc ms (xA X)
theorem CT.of {l : Launch} {y : MethodName} {bytes : ByteArray} {maxL : Nat} {ret : Option FieldType} {fr lo mc ms : Nat} {As : List Value} {M : mM} {r : Option Value} {M2 : mM} (hy : plainName y.cls = true) (hL : (lg_sl As).length ≤ maxL)
    (body : ∀ X : mX, CX X y.cls y.name bytes maxL ret → EX X l fr lo mc ms r M2 → EV X maxL 0 (lv_args 0 As) [] 0 0 M) : CT l y bytes maxL ret fr lo mc ms As M r M2 := by
  intro w
  refine Met.ofW (cc := bytes) (maxL := maxL) (ret := ret) hy rfl ?_
  intro p e s m args below meth c s₁ B hml hv
  obtain ⟨rfl, hIn⟩ := hv
  have hts := atoms_spec (ws := Cond.code y bytes maxL ret :: lw_all) B.pre
  have hcat : ∀ vs : List Value, (lg_sl (vs.map (m_v (m_f w)))).length = (lg_sl vs).length := by
    intro vs
    induction vs with
    | nil => rfl
    | cons v vs ih =>
      have hc := m_v_cat (m_f w) v
      simp only [lg_sl, List.map_cons, List.flatMap_cons, List.length_append] at ih ⊢
      rw [ih, hc]
      split <;> rfl
  have hargs : ∀ (vs : List Value) (n : Nat), lv_args n (vs.map (m_v (m_f w))) = (lv_args n vs).map (fun q => (q.1, m_v (m_f w) q.2)) := by
    intro vs
    induction vs with
    | nil => intro n; rfl
    | cons v vs ih => intro n; simp [lv_args, ih, m_v_cat]
  have hl := lv_entry (As.map (m_v (m_f w))) (n := maxL) (by rw [hcat]; exact hL)
  have K := body ((p, l, e, (headSpec (Cond.code y bytes maxL ret :: lw_all) ({ frames := fr, cells := mc, slots := ms, locals := lo } : Room)).room, s, m), ((As.map (m_v (m_f w))).toArray, below, meth, c), MQ below (fun _ => mQ w r M2) (As.map (m_v (m_f w))).toArray s mc ms (fun q => w.2.2.2.2 ≤ q), w)
    ⟨B.exec, B.bytes, hml, findClass_of_methodNamed B.named, fun z hz => hts z (List.mem_cons_of_mem _ hz), B.notSynchronized, hIn.1, hIn.2.1, hIn.base, B.returns, (name_of_methodNamed B.named B.method).1⟩ ⟨rfl, rfl, rfl⟩
  rw [lg_entry_eq]
  rw [hargs] at hl
  exact K s.heap [] _ hl hIn.2.2 va_S.rf
theorem m_good {l1 : List Cond} (h : ∀ w ∈ l1, w ∈ lw_all) : GoodIn lw_all l1 := fun w hw => ⟨h w hw, good_of_word (lw_all_good w (h w hw))⟩
theorem m_cat (f : Nat → Nat) (st : List Value) : (st.map (m_v f)).map (fun v => v.category) = st.map (fun v => v.category) := by
  rw [List.map_map]
  exact List.map_congr_left (fun v _ => m_v_cat f v)
section EVC
variable {X : mX} {own nm : String} {cc : ByteArray} {nL pc kc ks : Nat} {ret : Option FieldType} {l l' : List (Nat × Value)} {st : List Value} {M M2 Mf : mM} {L0 : Launch} {fr lo mc ms : Nat} {r rf : Option Value}
-- ends
theorem m_end (C : CX X own nm cc nL ret) {H : Heap} {locs : List Loc} (hM : m_At (xw X) M H) (hS : va_S (xA X) (xs X).heap H locs) (t : State) (ht : t.heap = H) : mQ (xw X) rf M (xs X) (.returned (rf.map (m_v (xf X)))) t := ⟨rfl, by rw [ht]; exact hM, hS.F ht⟩
theorem ev_iret (C : CX X own nm cc nL (some .int)) {v : Int32} (E : EX X L0 fr lo mc ms (some (.int v)) M) (h1 : kc ≤ mc) (h2 : ks ≤ ms) (d : decode cc pc = .ok (.ireturn, 1)) : EV X nL pc l [.int v] kc ks M := by
  intro H locs ls hl hM hS
  unfold WX
  rw [E.2.2]
  exact W.widen h1 h2 (W.iret C.1 C.2.1 C.2.2.2.2.2.2.2.2.2.1 (fun t ht hW => m_end (rf := some (.int v)) C hM hS t ht) hS.2.2 d C.2.2.2.2.2.1)
theorem ev_zret (C : CX X own nm cc nL (some .boolean)) {v : Int32} (hz : v = 0 ∨ v = 1) (E : EX X L0 fr lo mc ms (some (.int v)) M) (h1 : kc ≤ mc) (h2 : ks ≤ ms) (d : decode cc pc = .ok (.ireturn, 1)) : EV X nL pc l [.int v] kc ks M := by
  intro H locs ls hl hM hS
  unfold WX
  rw [E.2.2]
  exact W.widen h1 h2 (W.zret C.1 C.2.1 C.2.2.2.2.2.2.2.2.2.1 (by rcases hz with rfl | rfl <;> rfl) (fun t ht hW => m_end (rf := some (.int v)) C hM hS t ht) hS.2.2 d C.2.2.2.2.2.1)
theorem ev_cret (C : CX X own nm cc nL (some .char)) {v : Int32} (hz : narrow .char (.int v) = .int v) (E : EX X L0 fr lo mc ms (some (.int v)) M) (h1 : kc ≤ mc) (h2 : ks ≤ ms) (d : decode cc pc = .ok (.ireturn, 1)) : EV X nL pc l [.int v] kc ks M := by
  intro H locs ls hl hM hS
  unfold WX
  rw [E.2.2]
  exact W.widen h1 h2 (W.zret C.1 C.2.1 C.2.2.2.2.2.2.2.2.2.1 hz (fun t ht hW => m_end (rf := some (.int v)) C hM hS t ht) hS.2.2 d C.2.2.2.2.2.1)
theorem ev_lret (C : CX X own nm cc nL (some .long)) {v : Int64} (E : EX X L0 fr lo mc ms (some (.long v)) M) (h1 : kc ≤ mc) (h2 : ks ≤ ms) (d : decode cc pc = .ok (.lreturn, 1)) : EV X nL pc l [.long v] kc ks M := by
  intro H locs ls hl hM hS
  unfold WX
  rw [E.2.2]
  exact W.widen h1 h2 (W.lret C.1 C.2.1 C.2.2.2.2.2.2.2.2.2.1 (fun t ht hW => m_end (rf := some (.long v)) C hM hS t ht) hS.2.2 d C.2.2.2.2.2.1)
theorem ev_dret (C : CX X own nm cc nL (some .double)) {v : UInt64} (E : EX X L0 fr lo mc ms (some (.double v)) M) (h1 : kc ≤ mc) (h2 : ks ≤ ms) (d : decode cc pc = .ok (.dreturn, 1)) : EV X nL pc l [.double v] kc ks M := by
  intro H locs ls hl hM hS
  unfold WX
  rw [E.2.2]
  exact W.widen h1 h2 (W.dret C.1 C.2.1 C.2.2.2.2.2.2.2.2.2.1 (fun t ht hW => m_end (rf := some (.double v)) C hM hS t ht) hS.2.2 d C.2.2.2.2.2.1)
theorem ev_fret (C : CX X own nm cc nL (some .float)) {v : UInt32} (E : EX X L0 fr lo mc ms (some (.float v)) M) (h1 : kc ≤ mc) (h2 : ks ≤ ms) (d : decode cc pc = .ok (.freturn, 1)) : EV X nL pc l [.float v] kc ks M := by
  intro H locs ls hl hM hS
  unfold WX
  rw [E.2.2]
  exact W.widen h1 h2 (W.fret C.1 C.2.1 C.2.2.2.2.2.2.2.2.2.1 (fun t ht hW => m_end (rf := some (.float v)) C hM hS t ht) hS.2.2 d C.2.2.2.2.2.1)
theorem ev_aret {rt : FieldType} (C : CX X own nm cc nL (some rt)) {v : Nat} (hrt : (∃ n, rt = .object n) ∨ ∃ t, rt = .array t) (E : EX X L0 fr lo mc ms (some (.ref v)) M) (h1 : kc ≤ mc) (h2 : ks ≤ ms) (d : decode cc pc = .ok (.areturn, 1)) : EV X nL pc l [.ref v] kc ks M := by
  intro H locs ls hl hM hS
  unfold WX
  rw [E.2.2]
  exact W.widen h1 h2 (W.aret (v := .ref (xf X v)) C.1 C.2.1 C.2.2.2.2.2.2.2.2.2.1 hrt (Or.inr ⟨_, rfl⟩) (fun t ht hW => m_end (rf := some (.ref v)) C hM hS t ht) hS.2.2 d C.2.2.2.2.2.1)
theorem ev_vret (C : CX X own nm cc nL none) (E : EX X L0 fr lo mc ms none M) (h1 : kc ≤ mc) (h2 : ks ≤ ms) (d : decode cc pc = .ok (.return_, 1)) : EV X nL pc l [] kc ks M := by
  intro H locs ls hl hM hS
  unfold WX
  rw [E.2.2]
  exact W.widen h1 h2 (W.vret C.1 C.2.1 C.2.2.2.2.2.2.2.2.2.1 (fun t ht hW => m_end (rf := none) C hM hS t ht) hS.2.2 d C.2.2.2.2.2.1)
-- calls
variable {y x : MethodName} {bytes : ByteArray} {maxL n idx : Nat} {ret2 : Option FieldType} {As : List Value} {fr2 lo2 mc2 ms2 : Nat} {r2 : Option Value}
theorem m_ct (hM : CT L0 y bytes maxL ret2 fr lo mc ms As M r M2) (w : mW) : FrameBlind (va_Pc (As.map (m_v (m_f w))) (m_In w M)) := fun a U g mk q => ⟨q.1, q.2.1.same rfl, m_St.on (m_alike rfl) (fun _ _ _ => rfl) q.2.2.1, q.2.2.2⟩
theorem m_pre (C : CX X own nm cc nL ret) {H : Heap} {locs : List Loc} (hM : m_At (xw X) M H) (hS : va_S (xA X) (xs X).heap H locs) (As : List Value) (U : State) (hU : U.heap = H) (hW : (xs X).WarmedH U.vm) : va_Pc (As.map (m_v (xf X))) (m_In (xw X) M) (As.map (m_v (xf X))).toArray U := ⟨rfl, C.K.warm hW, m_St.on hW.alike (fun a h1 h2 => by rw [hU]; exact hS.2.1 a h1 h2) C.S, by rw [hU]; exact hM⟩
theorem m_call {H : Heap} {locs : List Loc} {ls : Array Slot} {st0 : List Value} (hl : lv_has ls nL (l.map fun q => (q.1, m_v (xf X) q.2))) (hS : va_S (xA X) (xs X).heap H locs) (hr : va_Run X.1.1 X.1.2.1 X.1.2.2.1 X.1.2.2.2.1 X.1.2.2.2.2.1 X.1.2.2.2.2.2 X.2.1.1 X.2.1.2.1 X.2.1.2.2.1 X.2.1.2.2.2 H locs kc ks mc ms (F0 (xm X) pc ls st0) (st.map (m_v (xf X))) (mQ (xw X) r M2) (xA X))
    (kk : EV X nL (pc + 3) l (r.toList ++ st) (kc + mc) (ks + ms) M2) : WX X H locs kc ks (F0 (xm X) pc ls st0) := by
  intro T hT Xs
  obtain ⟨v, st₀, t, T', L, h0, X', hL, e1, e2, ⟨hv, hA2, hz, hk⟩, stp⟩ := hr T hT Xs
  have hv2 : v = r.map (m_v (xf X)) := Outcome.returned.inj hv
  subst hv2
  rw [h0] at hz hk
  have k9 := kk T'.heap (locs ++ L) ls hl (by rw [e1]; exact hA2) ⟨Nat.le_trans hS.1 (by rw [e1]; exact hz), fun q h1 h2 => by rw [e1, hk q (Nat.lt_of_lt_of_le h1 hS.1) h2]; exact hS.2.1 q h1 h2, fun q hq => by
    rcases List.mem_append.mp hq with h | h
    · exact hS.2.2 q h
    · exact hL q h⟩
  have e3 : (r.toList ++ st).map (m_v (xf X)) = (r.map (m_v (xf X))).toList ++ st.map (m_v (xf X)) := by cases r <;> rfl
  rw [e3] at k9
  obtain ⟨t2, a1, b1⟩ := k9 T' rfl X'
  exact ⟨t2, stp t2 a1, b1⟩
/-- the room of a frame holds that of its callee -/
def mRoom (X : mX) (maxL fr2 lo2 mc2 ms2 kc ks : Nat) : Prop := fr2 + 1 ≤ (xR X).frames ∧ 8 + (maxL + 11) + lo2 ≤ (xR X).locals ∧ kc + mc2 ≤ (xR X).cells ∧ ks + ms2 ≤ (xR X).slots
theorem mRoom.of (E : EX X L0 fr lo mc ms r M) (h1 : fr2 + 1 ≤ fr) (h2 : 8 + (maxL + 11) + lo2 ≤ lo) (h3 : kc + mc2 ≤ mc) (h4 : ks + ms2 ≤ ms) : mRoom X maxL fr2 lo2 mc2 ms2 kc ks := by
  unfold mRoom
  rw [E.2.1]
  exact ⟨h1, h2, h3, h4⟩
def mOwn (y : MethodName) (n : Nat) : Prop := y.cls ≠ "java/lang/invoke/MethodHandle" ∧ y.cls ≠ "java/lang/invoke/VarHandle" ∧ (parseMethodDescriptor y.desc).map (fun d => d.parameters.length) = some n
theorem ev_callS (C : CX X own nm cc nL ret) (hM : CT X.1.2.1 y bytes maxL ret2 fr2 lo2 mc2 ms2 As M r2 M2) (hy : mOwn y n) (hn : As.length = n) (k1 : Cond.methodLink own idx y ∈ lw_all) (k2 : Cond.static y ∈ lw_all) (k3 : Cond.initialized y.cls ∈ lw_all) (k4 : Cond.code y bytes maxL ret2 ∈ lw_all) (hR : mRoom X maxL fr2 lo2 mc2 ms2 kc ks) (hst : (st.map fun v => v.category).sum ≤ 8) (d : decode cc pc = .ok (.invokestatic idx, 3)) (kk : EV X nL (pc + 3) l (r2.toList ++ st) (kc + mc2) (ks + ms2) M2) : EV X nL pc l (As.reverse ++ st) kc ks M := by
  intro H locs ls hl hMm hS
  refine m_call hl hS (va_runS (As := As.map (m_v (xf X))) ⟨C.1, C.2.1, C.2.2.1, C.own, C.ts⟩ (hM (xw X)) (va_cwS n C.ts (m_good (by
    intro w hw
    rcases List.mem_append.mp hw with h | h
    · simp only [List.mem_cons, List.not_mem_nil, or_false] at h
      rcases h with rfl | rfl | rfl
      · exact k1
      · exact k2
      · exact k3
    · rcases List.mem_cons.mp h with rfl | h
      · exact k4
      · exact h)) rfl rfl rfl hy ⟨hR.1, hR.2.1⟩) ⟨m_ct hM _, fun U hU hW => m_pre C hMm hS As U hU hW⟩ rfl (by rw [List.length_map]; exact hn) hl.1 (by rw [List.map_append, List.map_reverse]) (by show 2 * 0 + _ ≤ 8; rw [m_cat]; omega) d ⟨hR.2.2.1, hR.2.2.2⟩) kk
theorem ev_callV (C : CX X own nm cc nL ret) {a ci N : Nat} {Cn : String} {T : u_T} {fs : List Value} (hc : vwCl[ci]? = some (Cn, T, N)) (ho : M[a]? = some (.inr (ci, fs))) (hM : CT X.1.2.1 y bytes maxL ret2 fr2 lo2 mc2 ms2 (.ref a :: As) M r2 M2) (hyc : y.cls = Cn) (hy : mOwn y n) (hn : As.length = n) (k1 : Cond.methodLink own idx y ∈ lw_all) (k2 : Cond.instanceMethod y ∈ lw_all) (k3 : Cond.initialized Cn ∈ lw_all) (k5 : Cond.selects Cn y y ∈ lw_all) (k4 : Cond.code y bytes maxL ret2 ∈ lw_all) (hR : mRoom X maxL fr2 lo2 mc2 ms2 kc ks) (hst : (st.map fun v => v.category).sum ≤ 8) (d : decode cc pc = .ok (.invokevirtual idx, 3)) (kk : EV X nL (pc + 3) l (r2.toList ++ st) (kc + mc2) (ks + ms2) M2) : EV X nL pc l (As.reverse ++ .ref a :: st) kc ks M := by
  intro H locs ls hl hMm hS
  obtain ⟨h8, cell, q1, q2, q3, q4⟩ := m_obj hMm ho hc
  refine m_call hl hS (va_runV (C := Cn) (b := xf X a) (As := As.map (m_v (xf X))) ⟨C.1, C.2.1, C.2.2.1, C.own, C.ts⟩ (hM (xw X)) (cwV n C.ts (m_good (by
    intro w hw
    rcases List.mem_append.mp hw with h | h
    · simp only [List.mem_cons, List.not_mem_nil, or_false] at h
      rcases h with rfl | rfl | rfl | rfl
      · exact k1
      · exact k2
      · exact k5
      · exact k3
    · rcases List.mem_cons.mp h with rfl | h
      · exact k4
      · exact h)) rfl rfl rfl ⟨hyc, hy⟩ ⟨hR.1, hR.2.1⟩) ⟨m_ct hM _, ⟨cell, q1, by rw [q3]; rfl, by rw [q2]; exact (C.K.1 ci _ hc).2.1⟩, fun U hU hW => m_pre C hMm hS (.ref a :: As) U hU hW⟩ rfl (by rw [List.length_map]; exact hn) hl.1 (by rw [List.map_append, List.map_reverse]; rfl) (by show 2 * 0 + _ ≤ 8; rw [m_cat]; omega) d ⟨hR.2.2.1, hR.2.2.2⟩) kk
/-- a call of an enum constant's method -/
theorem ev_callK (C : CX X own nm cc nL ret) {a : Nat} (ho : a < 4) (hM : CT X.1.2.1 y bytes maxL ret2 fr2 lo2 mc2 ms2 (.ref a :: As) M r2 M2) (hyc : y.cls = "FareLimits$Kind") (hy : mOwn y n) (hn : As.length = n) (k1 : Cond.methodLink own idx y ∈ lw_all) (k2 : Cond.instanceMethod y ∈ lw_all) (k3 : Cond.initialized "FareLimits$Kind" ∈ lw_all) (k5 : Cond.selects "FareLimits$Kind" y y ∈ lw_all) (k4 : Cond.code y bytes maxL ret2 ∈ lw_all) (hR : mRoom X maxL fr2 lo2 mc2 ms2 kc ks) (hst : (st.map fun v => v.category).sum ≤ 8) (d : decode cc pc = .ok (.invokevirtual idx, 3)) (kk : EV X nL (pc + 3) l (r2.toList ++ st) (kc + mc2) (ks + ms2) M2) : EV X nL pc l (As.reverse ++ .ref a :: st) kc ks M := by
  intro H locs ls hl hMm hS
  refine m_call hl hS (va_runV (C := "FareLimits$Kind") (b := xf X a) (As := As.map (m_v (xf X))) ⟨C.1, C.2.1, C.2.2.1, C.own, C.ts⟩ (hM (xw X)) (cwV n C.ts (m_good (by
    intro w hw
    rcases List.mem_append.mp hw with h | h
    · simp only [List.mem_cons, List.not_mem_nil, or_false] at h
      rcases h with rfl | rfl | rfl | rfl
      · exact k1
      · exact k2
      · exact k5
      · exact k3
    · rcases List.mem_cons.mp h with rfl | h
      · exact k4
      · exact h)) rfl rfl rfl ⟨hyc, hy⟩ ⟨hR.1, hR.2.1⟩) ⟨m_ct hM _, (by
        show ∃ cell, H[m_f (xw X) a]? = some cell ∧ _
        rw [m_zf _ (by omega)]
        exact va_recvE C.S.1 (i := a) ho hS), fun U hU hW => m_pre C hMm hS (.ref a :: As) U hU hW⟩ rfl (by rw [List.length_map]; exact hn) hl.1 (by rw [List.map_append, List.map_reverse]; rfl) (by show 2 * 0 + _ ≤ 8; rw [m_cat]; omega) d ⟨hR.2.2.1, hR.2.2.2⟩) kk
theorem ev_callI (C : CX X own nm cc nL ret) {a : Nat} (hM : CT X.1.2.1 y bytes maxL none fr2 lo2 mc2 ms2 (.ref a :: As) M none M2) (hy1 : y.name = "<init>") (hy : mOwn y n) (hn : As.length = n) (k1 : Cond.methodLink own idx y ∈ lw_all) (k2 : Cond.instanceMethod y ∈ lw_all) (k3 : Cond.initialized y.cls ∈ lw_all) (k4 : Cond.code y bytes maxL none ∈ lw_all) (hR : mRoom X maxL fr2 lo2 mc2 ms2 kc ks) (hst : (st.map fun v => v.category).sum ≤ 8) (d : decode cc pc = .ok (.invokespecial idx, 3)) (kk : EV X nL (pc + 3) l st (kc + mc2) (ks + ms2) M2) : EV X nL pc l (As.reverse ++ .ref a :: st) kc ks M := by
  intro H locs ls hl hMm hS
  refine m_call (r := none) hl hS (va_runI (b := xf X a) (As := As.map (m_v (xf X))) ⟨C.1, C.2.1, C.2.2.1, C.own, C.ts⟩ (hM (xw X)) (cwI n C.ts (m_good (by
    intro w hw
    rcases List.mem_cons.mp hw with rfl | h
    · exact k4
    · exact h)) rfl rfl rfl (C.ts _ k3) (C.ts _ k1) (C.ts _ k2) hy1 hy ⟨hR.1, hR.2.1⟩) ⟨m_ct hM _, fun U hU hW => m_pre C hMm hS (.ref a :: As) U hU hW⟩ rfl (by rw [List.length_map]; exact hn) hl.1 (by rw [List.map_append, List.map_reverse]; rfl) (by show 2 * 0 + _ ≤ 8; rw [m_cat]; omega) d ⟨hR.2.2.1, hR.2.2.2⟩) kk
theorem ev_callIN (C : CX X own nm cc nL ret) {a : Nat} {host : String} (hM : CT X.1.2.1 y bytes maxL none fr2 lo2 mc2 ms2 (.ref a :: As) M none M2) (hy1 : y.name = "<init>") (hy : mOwn y n) (hn : As.length = n) (k1 : va_Nw (.methodLinkNest own idx y host) (xs X)) (k2 : Cond.instanceMethod y ∈ lw_all) (k3 : Cond.initialized y.cls ∈ lw_all) (k4 : Cond.code y bytes maxL none ∈ lw_all) (hR : mRoom X maxL fr2 lo2 mc2 ms2 kc ks) (hst : (st.map fun v => v.category).sum ≤ 8) (d : decode cc pc = .ok (.invokespecial idx, 3)) (kk : EV X nL (pc + 3) l st (kc + mc2) (ks + ms2) M2) : EV X nL pc l (As.reverse ++ .ref a :: st) kc ks M := by
  intro H locs ls hl hMm hS
  refine m_call (r := none) hl hS (va_runIN (b := xf X a) (As := As.map (m_v (xf X))) ⟨C.1, C.2.1, C.2.2.1, C.own, C.ts⟩ (hM (xw X)) ⟨va_cnB n C.ts (m_good (by
    intro w hw
    rcases List.mem_cons.mp hw with rfl | h
    · exact k4
    · exact h)) rfl rfl rfl k1 (C.ts _ k3) hy ⟨hR.1, hR.2.1⟩, hy1, C.ts _ k2⟩ ⟨m_ct hM _, fun U hU hW => m_pre C hMm hS (.ref a :: As) U hU hW⟩ rfl (by rw [List.length_map]; exact hn) hl.1 (by rw [List.map_append, List.map_reverse]; rfl) (by show 2 * 0 + _ ≤ 8; rw [m_cat]; omega) d ⟨hR.2.2.1, hR.2.2.2⟩) kk
theorem ev_callSN (C : CX X own nm cc nL ret) {host : String} (hM : CT X.1.2.1 y bytes maxL ret2 fr2 lo2 mc2 ms2 As M r2 M2) (hy : mOwn y n) (hn : As.length = n) (k1 : va_Nw (.methodLinkNest own idx y host) (xs X)) (k2 : Cond.static y ∈ lw_all) (k3 : Cond.initialized y.cls ∈ lw_all) (k4 : Cond.code y bytes maxL ret2 ∈ lw_all) (hR : mRoom X maxL fr2 lo2 mc2 ms2 kc ks) (hst : (st.map fun v => v.category).sum ≤ 8) (d : decode cc pc = .ok (.invokestatic idx, 3)) (kk : EV X nL (pc + 3) l (r2.toList ++ st) (kc + mc2) (ks + ms2) M2) : EV X nL pc l (As.reverse ++ st) kc ks M := by
  intro H locs ls hl hMm hS
  refine m_call hl hS (va_runSN (As := As.map (m_v (xf X))) ⟨C.1, C.2.1, C.2.2.1, C.own, C.ts⟩ (hM (xw X)) ⟨va_cnB n C.ts (m_good (by
    intro w hw
    rcases List.mem_cons.mp hw with rfl | h
    · exact k4
    · exact h)) rfl rfl rfl k1 (C.ts _ k3) hy ⟨hR.1, hR.2.1⟩, C.ts _ k2, trivial⟩ ⟨m_ct hM _, fun U hU hW => m_pre C hMm hS As U hU hW⟩ rfl (by rw [List.length_map]; exact hn) hl.1 (by rw [List.map_append, List.map_reverse]) (by show 2 * 0 + _ ≤ 8; rw [m_cat]; omega) d ⟨hR.2.2.1, hR.2.2.2⟩) kk
theorem ev_objInit (C : CX X own nm cc nL ret) {a : Nat} (k1 : Cond.methodLink own idx Lib.objectInit ∈ lw_all) (k2 : Cond.instanceMethod Lib.objectInit ∈ lw_all) (k3 : Cond.code Lib.objectInit ⟨#[0xb1]⟩ 1 none ∈ lw_all) (hf : 1 ≤ (xR X).frames) (hlo : 20 ≤ (xR X).locals) (hst : (st.map fun v => v.category).sum ≤ 8) (d : decode cc pc = .ok (.invokespecial idx, 3)) (kk : EV X nL (pc + 3) l st kc ks M) : EV X nL pc l (.ref a :: st) kc ks M := by
  intro H locs ls hl hMm hS
  exact W.objInit C.1 C.2.1 C.own (C.ts _ k1) (C.ts _ k2) (C.ts _ k3) rfl (by rw [C.2.2.1]; exact hl.1) rfl d hf (by show 2 * 0 + _ + 12 ≤ (xR X).locals; rw [m_cat]; omega) (kk H locs ls hl hMm hS)

theorem ev_callSU (C : CX X own nm cc nL ret) {a ci N : Nat} {Cn : String} {T : u_T} {fs : List Value} (hc : vwCl[ci]? = some (Cn, T, N)) (ho : M[a]? = some (.inr (ci, fs))) (hM : CT X.1.2.1 y bytes maxL ret2 fr2 lo2 mc2 ms2 (.ref a :: As) M r2 M2) (hy2 : y.name ≠ "<init>") (hy : mOwn y n) (hn : As.length = n) (k1 : Cond.methodLink own idx y ∈ lw_all) (k2 : Cond.sameMethod y.cls y.cls y.name y.desc ∈ lw_all) (k3 : Cond.superclass own y.cls ∈ lw_all) (k5 : Cond.instanceMethod y ∈ lw_all) (k6 : Cond.initialized y.cls ∈ lw_all) (k4 : Cond.code y bytes maxL ret2 ∈ lw_all) (hR : mRoom X maxL fr2 lo2 mc2 ms2 kc ks) (hst : (st.map fun v => v.category).sum ≤ 8) (d : decode cc pc = .ok (.invokespecial idx, 3)) (kk : EV X nL (pc + 3) l (r2.toList ++ st) (kc + mc2) (ks + ms2) M2) : EV X nL pc l (As.reverse ++ .ref a :: st) kc ks M := by
  intro H locs ls hl hMm hS
  obtain ⟨h8, cell, q1, q2, q3, q4⟩ := m_obj hMm ho hc
  refine m_call hl hS (va_runSU (C := Cn) (b := xf X a) (As := As.map (m_v (xf X))) (C.K.1 ci _ hc).2 ⟨C.1, C.2.1, C.2.2.1, C.own, C.ts⟩ (hM (xw X)) (va_cwSU n C.ts (m_good (by
    intro w hw
    rcases List.mem_append.mp hw with h | h
    · simp only [List.mem_cons, List.not_mem_nil, or_false] at h
      rcases h with rfl | rfl | rfl | rfl | rfl
      · exact k1
      · exact k2
      · exact k3
      · exact k5
      · exact k6
    · rcases List.mem_cons.mp h with rfl | h
      · exact k4
      · exact h)) rfl rfl rfl ⟨hy2, hy.2.2⟩ ⟨hR.1, hR.2.1⟩) ⟨m_ct hM _, ⟨cell, q1, by rw [q3]; rfl, by rw [q2]; exact (C.K.1 ci _ hc).2.1⟩, fun U hU hW => m_pre C hMm hS (.ref a :: As) U hU hW⟩ rfl (by rw [List.length_map]; exact hn) hl.1 (by rw [List.map_append, List.map_reverse]; rfl) (by show 2 * 0 + _ ≤ 8; rw [m_cat]; omega) d ⟨hR.2.2.1, hR.2.2.2⟩) kk
theorem ev_callU (C : CX X own nm cc nL ret) {a ci N : Nat} {Cn : String} {T : u_T} {fs : List Value} (hc : vwCl[ci]? = some (Cn, T, N)) (ho : M[a]? = some (.inr (ci, fs))) (hM : CT X.1.2.1 y bytes maxL ret2 fr2 lo2 mc2 ms2 (.ref a :: As) M r2 M2) (hy : mOwn y n) (hn : As.length = n) (k1 : Cond.methodLink own idx y ∈ lw_all) (k2 : Cond.sameMethod y.cls y.cls y.name y.desc ∈ lw_all) (k3 : Cond.selects Cn y y ∈ lw_all) (k5 : Cond.instanceMethod y ∈ lw_all) (k6 : Cond.initialized y.cls ∈ lw_all) (k4 : Cond.code y bytes maxL ret2 ∈ lw_all) (hR : mRoom X maxL fr2 lo2 mc2 ms2 kc ks) (hst : (st.map fun v => v.category).sum ≤ 8) (d : decode cc pc = .ok (.invokevirtual idx, 3)) (kk : EV X nL (pc + 3) l (r2.toList ++ st) (kc + mc2) (ks + ms2) M2) : EV X nL pc l (As.reverse ++ .ref a :: st) kc ks M := by
  intro H locs ls hl hMm hS
  obtain ⟨h8, cell, q1, q2, q3, q4⟩ := m_obj hMm ho hc
  refine m_call hl hS (va_runU (C := Cn) (owner := y.cls) (x := y) (b := xf X a) (As := As.map (m_v (xf X))) ⟨C.1, C.2.1, C.2.2.1, C.own, C.ts⟩ (hM (xw X)) (va_cwU n C.ts (m_good (by
    intro w hw
    rcases List.mem_append.mp hw with h | h
    · simp only [List.mem_cons, List.not_mem_nil, or_false] at h
      rcases h with rfl | rfl | rfl | rfl | rfl
      · exact k1
      · exact k2
      · exact k3
      · exact k5
      · exact k6
    · rcases List.mem_cons.mp h with rfl | h
      · exact k4
      · exact h)) rfl rfl rfl rfl hy ⟨hR.1, hR.2.1⟩) ⟨m_ct hM _, ⟨cell, q1, by rw [q3]; rfl, by rw [q2]; exact (C.K.1 ci _ hc).2.1⟩, fun U hU hW => m_pre C hMm hS (.ref a :: As) U hU hW⟩ rfl (by rw [List.length_map]; exact hn) hl.1 (by rw [List.map_append, List.map_reverse]; rfl) (by show 2 * 0 + _ ≤ 8; rw [m_cat]; omega) d ⟨hR.2.2.1, hR.2.2.2⟩) kk
theorem ev_callS0 (C : CX X own nm cc nL ret) (hM : CT X.1.2.1 y bytes maxL ret2 fr2 lo2 0 0 As M r2 M2) (hy : mOwn y n) (hn : As.length = n) (k1 : Cond.methodLink own idx y ∈ lw_all) (k2 : Cond.static y ∈ lw_all) (k3 : Cond.initialized y.cls ∈ lw_all) (k4 : Cond.code y bytes maxL ret2 ∈ lw_all) (hR : mRoom X maxL fr2 lo2 0 0 kc ks) (hst : (st.map fun v => v.category).sum ≤ 8) (d : decode cc pc = .ok (.invokestatic idx, 3)) (kk : EV X nL (pc + 3) l (r2.toList ++ st) kc ks M2) : EV X nL pc l (As.reverse ++ st) kc ks M := by
  intro H locs ls hl hMm hS
  refine m_call (mc := 0) (ms := 0) hl hS (va_runS (As := As.map (m_v (xf X))) ⟨C.1, C.2.1, C.2.2.1, C.own, C.ts⟩ (hM (xw X)) (va_cwS n C.ts (m_good (by
    intro w hw
    rcases List.mem_append.mp hw with h | h
    · simp only [List.mem_cons, List.not_mem_nil, or_false] at h
      rcases h with rfl | rfl | rfl
      · exact k1
      · exact k2
      · exact k3
    · rcases List.mem_cons.mp h with rfl | h
      · exact k4
      · exact h)) rfl rfl rfl hy ⟨hR.1, hR.2.1⟩) ⟨m_ct hM _, fun U hU hW => m_pre C hMm hS As U hU hW⟩ rfl (by rw [List.length_map]; exact hn) hl.1 (by rw [List.map_append, List.map_reverse]) (by show 2 * 0 + _ ≤ 8; rw [m_cat]; omega) d ⟨hR.2.2.1, hR.2.2.2⟩) kk
theorem ev_callV0 (C : CX X own nm cc nL ret) {a ci N : Nat} {Cn : String} {T : u_T} {fs : List Value} (hc : vwCl[ci]? = some (Cn, T, N)) (ho : M[a]? = some (.inr (ci, fs))) (hM : CT X.1.2.1 y bytes maxL ret2 fr2 lo2 0 0 (.ref a :: As) M r2 M2) (hyc : y.cls = Cn) (hy : mOwn y n) (hn : As.length = n) (k1 : Cond.methodLink own idx y ∈ lw_all) (k2 : Cond.instanceMethod y ∈ lw_all) (k3 : Cond.initialized Cn ∈ lw_all) (k5 : Cond.selects Cn y y ∈ lw_all) (k4 : Cond.code y bytes maxL ret2 ∈ lw_all) (hR : mRoom X maxL fr2 lo2 0 0 kc ks) (hst : (st.map fun v => v.category).sum ≤ 8) (d : decode cc pc = .ok (.invokevirtual idx, 3)) (kk : EV X nL (pc + 3) l (r2.toList ++ st) kc ks M2) : EV X nL pc l (As.reverse ++ .ref a :: st) kc ks M := by
  intro H locs ls hl hMm hS
  obtain ⟨h8, cell, q1, q2, q3, q4⟩ := m_obj hMm ho hc
  refine m_call (mc := 0) (ms := 0) hl hS (va_runV (C := Cn) (b := xf X a) (As := As.map (m_v (xf X))) ⟨C.1, C.2.1, C.2.2.1, C.own, C.ts⟩ (hM (xw X)) (cwV n C.ts (m_good (by
    intro w hw
    rcases List.mem_append.mp hw with h | h
    · simp only [List.mem_cons, List.not_mem_nil, or_false] at h
      rcases h with rfl | rfl | rfl | rfl
      · exact k1
      · exact k2
      · exact k5
      · exact k3
    · rcases List.mem_cons.mp h with rfl | h
      · exact k4
      · exact h)) rfl rfl rfl ⟨hyc, hy⟩ ⟨hR.1, hR.2.1⟩) ⟨m_ct hM _, ⟨cell, q1, by rw [q3]; rfl, by rw [q2]; exact (C.K.1 ci _ hc).2.1⟩, fun U hU hW => m_pre C hMm hS (.ref a :: As) U hU hW⟩ rfl (by rw [List.length_map]; exact hn) hl.1 (by rw [List.map_append, List.map_reverse]; rfl) (by show 2 * 0 + _ ≤ 8; rw [m_cat]; omega) d ⟨hR.2.2.1, hR.2.2.2⟩) kk
theorem ev_callK0 (C : CX X own nm cc nL ret) {a : Nat} (ho : a < 4) (hM : CT X.1.2.1 y bytes maxL ret2 fr2 lo2 0 0 (.ref a :: As) M r2 M2) (hyc : y.cls = "FareLimits$Kind") (hy : mOwn y n) (hn : As.length = n) (k1 : Cond.methodLink own idx y ∈ lw_all) (k2 : Cond.instanceMethod y ∈ lw_all) (k3 : Cond.initialized "FareLimits$Kind" ∈ lw_all) (k5 : Cond.selects "FareLimits$Kind" y y ∈ lw_all) (k4 : Cond.code y bytes maxL ret2 ∈ lw_all) (hR : mRoom X maxL fr2 lo2 0 0 kc ks) (hst : (st.map fun v => v.category).sum ≤ 8) (d : decode cc pc = .ok (.invokevirtual idx, 3)) (kk : EV X nL (pc + 3) l (r2.toList ++ st) kc ks M2) : EV X nL pc l (As.reverse ++ .ref a :: st) kc ks M := by
  intro H locs ls hl hMm hS
  refine m_call (mc := 0) (ms := 0) hl hS (va_runV (C := "FareLimits$Kind") (b := xf X a) (As := As.map (m_v (xf X))) ⟨C.1, C.2.1, C.2.2.1, C.own, C.ts⟩ (hM (xw X)) (cwV n C.ts (m_good (by
    intro w hw
    rcases List.mem_append.mp hw with h | h
    · simp only [List.mem_cons, List.not_mem_nil, or_false] at h
      rcases h with rfl | rfl | rfl | rfl
      · exact k1
      · exact k2
      · exact k5
      · exact k3
    · rcases List.mem_cons.mp h with rfl | h
      · exact k4
      · exact h)) rfl rfl rfl ⟨hyc, hy⟩ ⟨hR.1, hR.2.1⟩) ⟨m_ct hM _, (by
        show ∃ cell, H[m_f (xw X) a]? = some cell ∧ _
        rw [m_zf _ (by omega)]
        exact va_recvE C.S.1 (i := a) ho hS), fun U hU hW => m_pre C hMm hS (.ref a :: As) U hU hW⟩ rfl (by rw [List.length_map]; exact hn) hl.1 (by rw [List.map_append, List.map_reverse]; rfl) (by show 2 * 0 + _ ≤ 8; rw [m_cat]; omega) d ⟨hR.2.2.1, hR.2.2.2⟩) kk
theorem ev_callI0 (C : CX X own nm cc nL ret) {a : Nat} (hM : CT X.1.2.1 y bytes maxL none fr2 lo2 0 0 (.ref a :: As) M none M2) (hy1 : y.name = "<init>") (hy : mOwn y n) (hn : As.length = n) (k1 : Cond.methodLink own idx y ∈ lw_all) (k2 : Cond.instanceMethod y ∈ lw_all) (k3 : Cond.initialized y.cls ∈ lw_all) (k4 : Cond.code y bytes maxL none ∈ lw_all) (hR : mRoom X maxL fr2 lo2 0 0 kc ks) (hst : (st.map fun v => v.category).sum ≤ 8) (d : decode cc pc = .ok (.invokespecial idx, 3)) (kk : EV X nL (pc + 3) l st kc ks M2) : EV X nL pc l (As.reverse ++ .ref a :: st) kc ks M := by
  intro H locs ls hl hMm hS
  refine m_call (mc := 0) (ms := 0) (r := none) hl hS (va_runI (b := xf X a) (As := As.map (m_v (xf X))) ⟨C.1, C.2.1, C.2.2.1, C.own, C.ts⟩ (hM (xw X)) (cwI n C.ts (m_good (by
    intro w hw
    rcases List.mem_cons.mp hw with rfl | h
    · exact k4
    · exact h)) rfl rfl rfl (C.ts _ k3) (C.ts _ k1) (C.ts _ k2) hy1 hy ⟨hR.1, hR.2.1⟩) ⟨m_ct hM _, fun U hU hW => m_pre C hMm hS (.ref a :: As) U hU hW⟩ rfl (by rw [List.length_map]; exact hn) hl.1 (by rw [List.map_append, List.map_reverse]; rfl) (by show 2 * 0 + _ ≤ 8; rw [m_cat]; omega) d ⟨hR.2.2.1, hR.2.2.2⟩) kk
theorem ev_callIN0 (C : CX X own nm cc nL ret) {a : Nat} {host : String} (hM : CT X.1.2.1 y bytes maxL none fr2 lo2 0 0 (.ref a :: As) M none M2) (hy1 : y.name = "<init>") (hy : mOwn y n) (hn : As.length = n) (k1 : va_Nw (.methodLinkNest own idx y host) (xs X)) (k2 : Cond.instanceMethod y ∈ lw_all) (k3 : Cond.initialized y.cls ∈ lw_all) (k4 : Cond.code y bytes maxL none ∈ lw_all) (hR : mRoom X maxL fr2 lo2 0 0 kc ks) (hst : (st.map fun v => v.category).sum ≤ 8) (d : decode cc pc = .ok (.invokespecial idx, 3)) (kk : EV X nL (pc + 3) l st kc ks M2) : EV X nL pc l (As.reverse ++ .ref a :: st) kc ks M := by
  intro H locs ls hl hMm hS
  refine m_call (mc := 0) (ms := 0) (r := none) hl hS (va_runIN (b := xf X a) (As := As.map (m_v (xf X))) ⟨C.1, C.2.1, C.2.2.1, C.own, C.ts⟩ (hM (xw X)) ⟨va_cnB n C.ts (m_good (by
    intro w hw
    rcases List.mem_cons.mp hw with rfl | h
    · exact k4
    · exact h)) rfl rfl rfl k1 (C.ts _ k3) hy ⟨hR.1, hR.2.1⟩, hy1, C.ts _ k2⟩ ⟨m_ct hM _, fun U hU hW => m_pre C hMm hS (.ref a :: As) U hU hW⟩ rfl (by rw [List.length_map]; exact hn) hl.1 (by rw [List.map_append, List.map_reverse]; rfl) (by show 2 * 0 + _ ≤ 8; rw [m_cat]; omega) d ⟨hR.2.2.1, hR.2.2.2⟩) kk
theorem ev_callSN0 (C : CX X own nm cc nL ret) {host : String} (hM : CT X.1.2.1 y bytes maxL ret2 fr2 lo2 0 0 As M r2 M2) (hy : mOwn y n) (hn : As.length = n) (k1 : va_Nw (.methodLinkNest own idx y host) (xs X)) (k2 : Cond.static y ∈ lw_all) (k3 : Cond.initialized y.cls ∈ lw_all) (k4 : Cond.code y bytes maxL ret2 ∈ lw_all) (hR : mRoom X maxL fr2 lo2 0 0 kc ks) (hst : (st.map fun v => v.category).sum ≤ 8) (d : decode cc pc = .ok (.invokestatic idx, 3)) (kk : EV X nL (pc + 3) l (r2.toList ++ st) kc ks M2) : EV X nL pc l (As.reverse ++ st) kc ks M := by
  intro H locs ls hl hMm hS
  refine m_call (mc := 0) (ms := 0) hl hS (va_runSN (As := As.map (m_v (xf X))) ⟨C.1, C.2.1, C.2.2.1, C.own, C.ts⟩ (hM (xw X)) ⟨va_cnB n C.ts (m_good (by
    intro w hw
    rcases List.mem_cons.mp hw with rfl | h
    · exact k4
    · exact h)) rfl rfl rfl k1 (C.ts _ k3) hy ⟨hR.1, hR.2.1⟩, C.ts _ k2, trivial⟩ ⟨m_ct hM _, fun U hU hW => m_pre C hMm hS As U hU hW⟩ rfl (by rw [List.length_map]; exact hn) hl.1 (by rw [List.map_append, List.map_reverse]) (by show 2 * 0 + _ ≤ 8; rw [m_cat]; omega) d ⟨hR.2.2.1, hR.2.2.2⟩) kk
theorem ev_callSU0 (C : CX X own nm cc nL ret) {a ci N : Nat} {Cn : String} {T : u_T} {fs : List Value} (hc : vwCl[ci]? = some (Cn, T, N)) (ho : M[a]? = some (.inr (ci, fs))) (hM : CT X.1.2.1 y bytes maxL ret2 fr2 lo2 0 0 (.ref a :: As) M r2 M2) (hy2 : y.name ≠ "<init>") (hy : mOwn y n) (hn : As.length = n) (k1 : Cond.methodLink own idx y ∈ lw_all) (k2 : Cond.sameMethod y.cls y.cls y.name y.desc ∈ lw_all) (k3 : Cond.superclass own y.cls ∈ lw_all) (k5 : Cond.instanceMethod y ∈ lw_all) (k6 : Cond.initialized y.cls ∈ lw_all) (k4 : Cond.code y bytes maxL ret2 ∈ lw_all) (hR : mRoom X maxL fr2 lo2 0 0 kc ks) (hst : (st.map fun v => v.category).sum ≤ 8) (d : decode cc pc = .ok (.invokespecial idx, 3)) (kk : EV X nL (pc + 3) l (r2.toList ++ st) kc ks M2) : EV X nL pc l (As.reverse ++ .ref a :: st) kc ks M := by
  intro H locs ls hl hMm hS
  obtain ⟨h8, cell, q1, q2, q3, q4⟩ := m_obj hMm ho hc
  refine m_call (mc := 0) (ms := 0) hl hS (va_runSU (C := Cn) (b := xf X a) (As := As.map (m_v (xf X))) (C.K.1 ci _ hc).2 ⟨C.1, C.2.1, C.2.2.1, C.own, C.ts⟩ (hM (xw X)) (va_cwSU n C.ts (m_good (by
    intro w hw
    rcases List.mem_append.mp hw with h | h
    · simp only [List.mem_cons, List.not_mem_nil, or_false] at h
      rcases h with rfl | rfl | rfl | rfl | rfl
      · exact k1
      · exact k2
      · exact k3
      · exact k5
      · exact k6
    · rcases List.mem_cons.mp h with rfl | h
      · exact k4
      · exact h)) rfl rfl rfl ⟨hy2, hy.2.2⟩ ⟨hR.1, hR.2.1⟩) ⟨m_ct hM _, ⟨cell, q1, by rw [q3]; rfl, by rw [q2]; exact (C.K.1 ci _ hc).2.1⟩, fun U hU hW => m_pre C hMm hS (.ref a :: As) U hU hW⟩ rfl (by rw [List.length_map]; exact hn) hl.1 (by rw [List.map_append, List.map_reverse]; rfl) (by show 2 * 0 + _ ≤ 8; rw [m_cat]; omega) d ⟨hR.2.2.1, hR.2.2.2⟩) kk
theorem ev_callU0 (C : CX X own nm cc nL ret) {a ci N : Nat} {Cn : String} {T : u_T} {fs : List Value} (hc : vwCl[ci]? = some (Cn, T, N)) (ho : M[a]? = some (.inr (ci, fs))) (hM : CT X.1.2.1 y bytes maxL ret2 fr2 lo2 0 0 (.ref a :: As) M r2 M2) (hy : mOwn y n) (hn : As.length = n) (k1 : Cond.methodLink own idx y ∈ lw_all) (k2 : Cond.sameMethod y.cls y.cls y.name y.desc ∈ lw_all) (k3 : Cond.selects Cn y y ∈ lw_all) (k5 : Cond.instanceMethod y ∈ lw_all) (k6 : Cond.initialized y.cls ∈ lw_all) (k4 : Cond.code y bytes maxL ret2 ∈ lw_all) (hR : mRoom X maxL fr2 lo2 0 0 kc ks) (hst : (st.map fun v => v.category).sum ≤ 8) (d : decode cc pc = .ok (.invokevirtual idx, 3)) (kk : EV X nL (pc + 3) l (r2.toList ++ st) kc ks M2) : EV X nL pc l (As.reverse ++ .ref a :: st) kc ks M := by
  intro H locs ls hl hMm hS
  obtain ⟨h8, cell, q1, q2, q3, q4⟩ := m_obj hMm ho hc
  refine m_call (mc := 0) (ms := 0) hl hS (va_runU (C := Cn) (owner := y.cls) (x := y) (b := xf X a) (As := As.map (m_v (xf X))) ⟨C.1, C.2.1, C.2.2.1, C.own, C.ts⟩ (hM (xw X)) (va_cwU n C.ts (m_good (by
    intro w hw
    rcases List.mem_append.mp hw with h | h
    · simp only [List.mem_cons, List.not_mem_nil, or_false] at h
      rcases h with rfl | rfl | rfl | rfl | rfl
      · exact k1
      · exact k2
      · exact k3
      · exact k5
      · exact k6
    · rcases List.mem_cons.mp h with rfl | h
      · exact k4
      · exact h)) rfl rfl rfl rfl hy ⟨hR.1, hR.2.1⟩) ⟨m_ct hM _, ⟨cell, q1, by rw [q3]; rfl, by rw [q2]; exact (C.K.1 ci _ hc).2.1⟩, fun U hU hW => m_pre C hMm hS (.ref a :: As) U hU hW⟩ rfl (by rw [List.length_map]; exact hn) hl.1 (by rw [List.map_append, List.map_reverse]; rfl) (by show 2 * 0 + _ ≤ 8; rw [m_cat]; omega) d ⟨hR.2.2.1, hR.2.2.2⟩) kk
end EVC
end
section
theorem obnd {α β : Type} {x : Option α} {f : α → Option β} {r : β} (h : x.bind f = some r) : ∃ v, x = some v ∧ f v = some r := Option.bind_eq_some_iff.mp h
def oif (c : Prop) [Decidable c] : Option Unit := if c then some () else none
theorem oif_eq {c : Prop} [Decidable c] {u : Unit} (h : oif c = some u) : c := by
  unfold oif at h
  split at h
  · assumption
  · cases h
theorem oif_of {c : Prop} [Decidable c] (h : c) : oif c = some () := if_pos h
theorem oit {β : Type} {c : Prop} [Decidable c] {a b : Option β} {r : β} (h : (if c then a else b) = some r) (hc : c) : a = some r := by
  rw [if_pos hc] at h
  exact h
theorem oie {β : Type} {c : Prop} [Decidable c] {a b : Option β} {r : β} (h : (if c then a else b) = some r) (hc : ¬ c) : b = some r := by
  rw [if_neg hc] at h
  exact h
/-- a double, float that is no NaN -/
def oD (x : UInt64) : Option UInt64 := if x &&& 0x7fffffffffffffff ≤ 0x7ff0000000000000 then some x else none
def oF (x : UInt32) : Option UInt32 := if x &&& 0x7fffffff ≤ 0x7f800000 then some x else none
theorem oD_eq {x v : UInt64} (h : oD x = some v) : vf_n64 x ∧ v = x := by
  unfold oD at h
  split at h
  · next e => exact ⟨e, (Option.some.inj h).symm⟩
  · cases h
theorem oF_eq {x v : UInt32} (h : oF x = some v) : vf_n32 x ∧ v = x := by
  unfold oF at h
  split at h
  · next e => exact ⟨e, (Option.some.inj h).symm⟩
  · cases h
def oO (M : mM) (a ci : Nat) : Option Unit := match M[a]? with
  | some (.inr (c, _)) => if c = ci then some () else none
  | _ => none
theorem oO_eq {M : mM} {a ci : Nat} {u : Unit} (h : oO M a ci = some u) : ∃ fs : List Value, M[a]? = some (.inr (ci, fs)) := by
  unfold oO at h
  split at h
  · next c fs e =>
    split at h
    · next e2 => subst e2; exact ⟨fs, e⟩
    · cases h
  · cases h
theorem sZ_V {M M2 : mM} {a ci k : Nat} {x : Int32} (h : sZ M a ci k x = some M2) : sV M a ci k (.int x) = some M2 := by
  unfold sZ at h
  split at h
  · exact h
  · cases h
theorem sZ_fit {M M2 : mM} {a ci k : Nat} {x : Int32} (h : sZ M a ci k x = some M2) : narrow .boolean (.int x) = .int x ∧ fits .boolean (.int x) = true := by
  unfold sZ at h
  split at h
  · next e => rcases e with rfl | rfl <;> exact ⟨rfl, rfl⟩
  · cases h
theorem sB_V {M M2 : mM} {a ci k : Nat} {x : Int32} (h : sB M a ci k x = some M2) : sV M a ci k (.int x) = some M2 := by
  unfold sB at h
  split at h
  · exact h
  · cases h
theorem sB_fit {M M2 : mM} {a ci k : Nat} {x : Int32} (h : sB M a ci k x = some M2) : narrow .byte (.int x) = .int x ∧ fits .byte (.int x) = true := by
  unfold sB at h
  split at h
  · next e => rw [← e]; exact ⟨pk_nb x, pk_fb x⟩
  · cases h
theorem mcap {X : mX} {L0 : Launch} {fr lo mc ms a b : Nat} {r : Option Value} {M2 : mM} (E : EX X L0 fr lo mc ms r M2) (h : a ≤ mc ∧ b ≤ ms) : a ≤ (xR X).cells ∧ b ≤ (xR X).slots := by rw [E.2.1]; exact h
theorem mfr {X : mX} {L0 : Launch} {fr lo mc ms k : Nat} {r : Option Value} {M2 : mM} (E : EX X L0 fr lo mc ms r M2) (h : k ≤ fr) : k ≤ (xR X).frames := by rw [E.2.1]; exact h
theorem mlo {X : mX} {L0 : Launch} {fr lo mc ms k : Nat} {r : Option Value} {M2 : mM} (E : EX X L0 fr lo mc ms r M2) (h : k ≤ lo) : k ≤ (xR X).locals := by rw [E.2.1]; exact h
theorem tab_out {x : Int32} {lo n : Nat} (h : ∀ a, a < n → ¬ x = nI (lo + a)) (h1 : 0 < n) (hn : lo + n < 2 ^ 31) : x.toInt < (lo : Int) ∨ ((lo + n - 1 : Nat) : Int) < x.toInt := by
  rcases Int.lt_or_le x.toInt lo with q | q
  · exact Or.inl q
  · rcases Int.lt_or_le ((lo + n - 1 : Nat) : Int) x.toInt with q2 | q2
    · exact Or.inr q2
    · exfalso
      refine h (x.toInt.toNat - lo) (by omega) (Int32.toInt_inj.mp ?_)
      rw [nI_toInt (by omega)]
      omega
end
section
section EVN
variable {X : mX} {own nm : String} {cc : ByteArray} {nL pc kc ks : Nat} {ret : Option FieldType} {l : List (Nat × Value)} {st : List Value} {M M2 : mM} {idx : Nat}
theorem ev_d2raw (C : CX X own nm cc nL ret) {b : UInt64} (k1 : Cond.methodLink own idx ⟨"java/lang/Double", "doubleToRawLongBits", "(D)J"⟩ ∈ lw_all) (k2 : Cond.native ⟨"java/lang/Double", "doubleToRawLongBits", "(D)J"⟩ ∈ lw_all) (k3 : Cond.static ⟨"java/lang/Double", "doubleToRawLongBits", "(D)J"⟩ ∈ lw_all) (k4 : Cond.initialized "java/lang/Double" ∈ lw_all) (hf : 1 ≤ (xR X).frames) (hlo : 40 ≤ (xR X).locals) (hst : (st.map fun v => v.category).sum ≤ 8) (d : decode cc pc = .ok (.invokestatic idx, 3)) (kk : EV X nL (pc + 3) l (.long b.toInt64 :: st) kc ks M) : EV X nL pc l (.double b :: st) kc ks M := by
  intro H locs ls hl hM hS
  exact vn_d2l C.1 C.2.1 (by rw [C.2.2.1]; exact hl.1.symm) C.own (C.ts _ k1) (C.ts _ k2) (C.ts _ k3) (C.ts _ k4) hf (by show _ ≤ (xR X).locals; rw [m_cat]; omega) d (kk H locs ls hl hM hS)
theorem ev_f2raw (C : CX X own nm cc nL ret) {b : UInt32} (k1 : Cond.methodLink own idx ⟨"java/lang/Float", "floatToRawIntBits", "(F)I"⟩ ∈ lw_all) (k2 : Cond.native ⟨"java/lang/Float", "floatToRawIntBits", "(F)I"⟩ ∈ lw_all) (k3 : Cond.static ⟨"java/lang/Float", "floatToRawIntBits", "(F)I"⟩ ∈ lw_all) (k4 : Cond.initialized "java/lang/Float" ∈ lw_all) (hf : 1 ≤ (xR X).frames) (hlo : 40 ≤ (xR X).locals) (hst : (st.map fun v => v.category).sum ≤ 8) (d : decode cc pc = .ok (.invokestatic idx, 3)) (kk : EV X nL (pc + 3) l (.int b.toInt32 :: st) kc ks M) : EV X nL pc l (.float b :: st) kc ks M := by
  intro H locs ls hl hM hS
  exact vn_f2i C.1 C.2.1 (by rw [C.2.2.1]; exact hl.1.symm) C.own (C.ts _ k1) (C.ts _ k2) (C.ts _ k3) (C.ts _ k4) hf (by show _ ≤ (xR X).locals; rw [m_cat]; omega) d (kk H locs ls hl hM hS)
/-- a stretch of an array of ints or bytes copied -/
def cpA (t : Nat) (ty : FieldType) (M : mM) (a0 : Nat) (sp : Int32) (a1 : Nat) (dp n : Int32) : Option mM := match M[a0]?, M[a1]? with
  | some (.inl (t0, n0, .inl f)), some (.inl (t1, n1, .inl g)) => if t0 = t ∧ t1 = t ∧ ¬ sp < 0 ∧ ¬ dp < 0 ∧ ¬ n < 0 ∧ sp.toNatClampNeg + n.toNatClampNeg ≤ n0 ∧ dp.toNatClampNeg + n.toNatClampNeg ≤ n1 ∧ (List.range n.toNatClampNeg).all (fun i => fits ty (.int (f (sp.toNatClampNeg + i)))) = true then some (M.set a1 (.inl (t, n1, .inl (va_cpy f g sp.toNatClampNeg dp.toNatClampNeg n.toNatClampNeg)))) else none
  | _, _ => none
def cpI : mM → Nat → Int32 → Nat → Int32 → Int32 → Option mM := cpA 0 .int
def cpB : mM → Nat → Int32 → Nat → Int32 → Int32 → Option mM := cpA 4 .byte
theorem cpA_spec {t : Nat} {ty : FieldType} {a0 a1 : Nat} {sp dp n : Int32} (h : cpA t ty M a0 sp a1 dp n = some M2) : ∃ (n0 n1 : Nat) (f g : Nat → Int32), M[a0]? = some (.inl (t, n0, .inl f)) ∧ M[a1]? = some (.inl (t, n1, .inl g)) ∧ ¬ sp < 0 ∧ ¬ dp < 0 ∧ ¬ n < 0 ∧ sp.toNatClampNeg + n.toNatClampNeg ≤ n0 ∧ dp.toNatClampNeg + n.toNatClampNeg ≤ n1 ∧ (∀ i, i < n.toNatClampNeg → fits ty (.int (f (sp.toNatClampNeg + i))) = true) ∧ M2 = M.set a1 (.inl (t, n1, .inl (va_cpy f g sp.toNatClampNeg dp.toNatClampNeg n.toNatClampNeg))) := by
  unfold cpA at h
  split at h
  · next t0 n0 f t1 n1 g e0 e1 =>
    split at h
    · next e =>
      obtain ⟨rfl, rfl, h1, h2, h3, h4, h5, h6⟩ := e
      exact ⟨n0, n1, f, g, e0, e1, h1, h2, h3, h4, h5, fun i hi => List.all_eq_true.mp h6 i (List.mem_range.mpr hi), (Option.some.inj h).symm⟩
    · cases h
  · cases h
theorem ev_cpA (C : CX X own nm cc nL ret) {t : Nat} {ty : FieldType} {a0 a1 : Nat} {sp dp n : Int32} (ht : tyl[t]? = some ty) (hprim : refKind ty = false) (k1 : Cond.methodLink own idx arraycopyName ∈ lw_all) (k2 : Cond.native arraycopyName ∈ lw_all) (k3 : Cond.static arraycopyName ∈ lw_all) (k4 : Cond.initialized "java/lang/System" ∈ lw_all) (hf : 1 ≤ (xR X).frames) (hlo : 40 ≤ (xR X).locals) (hst : (st.map fun v => v.category).sum ≤ 8) (d : decode cc pc = .ok (.invokestatic idx, 3)) (hv : cpA t ty M a0 sp a1 dp n = some M2) (kk : EV X nL (pc + 3) l st kc ks M2) : EV X nL pc l (.int n :: .int dp :: .ref a1 :: .int sp :: .ref a0 :: st) kc ks M := by
  intro H locs ls hl hM hS
  obtain ⟨n0, n1, f, g, e0, e1, h1, h2, h3, h4, h5, h6, rfl⟩ := cpA_spec hv
  obtain ⟨-, hc0⟩ := m_arr hM e0
  obtain ⟨h8, hc1⟩ := m_arr hM e1
  have nn : ∀ z : Int32, ¬ z < 0 → z.toInt = (z.toNatClampNeg : Int) := by
    intro z hz
    have hz0 : (0 : Int) ≤ z.toInt := by
      have := Int32.not_lt.mp hz
      simpa using Int32.le_iff_toInt_le.mp this
    show z.toInt = ((z.toInt.toNat : Nat) : Int)
    omega
  intro T hT Xs
  obtain ⟨-, k0, hk0, cm0, hkk0⟩ := (C.K.2.1 t _ ht).1 n0 (fun j => .int (f j))
  obtain ⟨-, k9, hk9, cm9, hkk9⟩ := (C.K.2.1 t _ ht).1 n1 (fun j => .int (g j))
  have hw : nativeFrameWords "java/lang/System" "arraycopy" 5 ≤ 21 := by decide
  obtain ⟨vm', X', step⟩ := Xs.arraycopy C.1 C.own (C.ts _ k1) (C.ts _ k2) (C.ts _ k3) (C.ts _ k4) (src := xf X a0) (dst := xf X a1) (cs := vp_cell ((xw X).2.1 t) (n0, .inl f)) (cd := vp_cell ((xw X).2.1 t) (n1, .inl g)) (srcPos := sp) (destPos := dp) (n := n) (by rw [hT]; exact hc0) (by rw [hT]; exact hc1)
    (fun _ h => by cases h) (fun _ h => by cases h) (fun h => by cases h) (fun h => by cases h) hk0 hk9 hkk0 hkk9 (by simp [hprim]) h1 h2 h3
    (by rw [nn sp h1, nn n h3]; show ¬ _ > ((arrV _ n0 (fun j => .int (f j))).slots.size : Int); rw [arrV_size]; omega)
    (by rw [nn dp h2, nn n h3]; show ¬ _ > ((arrV _ n1 (fun j => .int (g j))).slots.size : Int); rw [arrV_size]; omega)
    (fun vm₁ _ i hi => by
      have e : (vp_cell ((xw X).2.1 t) (n0, .inl f)).slots.getD (sp.toNatClampNeg + i) .null = .int (f (sp.toNatClampNeg + i)) := by
        show (arrV _ n0 (fun j => .int (f j))).slots.getD _ _ = _
        rw [Array.getD_eq_getD_getElem?, arrV_read _ _ (by omega)]
        rfl
      refine ⟨?_, ?_⟩
      · rw [e]
        exact h6 i hi
      · rw [e]
        exact trivial)
    (g := F0 (xm X) pc ls (.int n :: .int dp :: .ref (xf X a1) :: .int sp :: .ref (xf X a0) :: st.map (m_v (xf X)))) rfl (by rw [C.2.2.1]; exact hl.1) (rest := st.map (m_v (xf X))) rfl (by rw [C.2.1]; exact d) hf (by show 2 * 0 + _ + _ ≤ (xR X).locals; rw [m_cat]; omega)
  have ecp : copied (vp_cell ((xw X).2.1 t) (n0, .inl f)) (vp_cell ((xw X).2.1 t) (n1, .inl g)) sp dp n = vp_cell ((xw X).2.1 t) (n1, .inl (va_cpy f g sp.toNatClampNeg dp.toNatClampNeg n.toNatClampNeg)) := va_copied (fun z => .int z) _ _ f g h4
  rw [ecp] at X' step
  have hlt : xf X a1 < H.size := (Array.getElem?_eq_some_iff.mp hc1).1
  have hheap : ((T.setVm vm').setCell (xf X a1) (vp_cell ((xw X).2.1 t) (n1, .inl (va_cpy f g sp.toNatClampNeg dp.toNatClampNeg n.toNatClampNeg)))).heap = H.setIfInBounds (xf X a1) (vp_cell ((xw X).2.1 t) (n1, .inl (va_cpy f g sp.toNatClampNeg dp.toNatClampNeg n.toNatClampNeg))) := by rw [← hT]; rfl
  have oq : ∀ q : Nat, q ≠ xf X a1 → (H.setIfInBounds (xf X a1) (vp_cell ((xw X).2.1 t) (n1, .inl (va_cpy f g sp.toNatClampNeg dp.toNatClampNeg n.toNatClampNeg))))[q]? = H[q]? := fun q hq => by simp [Array.getElem?_setIfInBounds, Ne.symm hq]
  obtain ⟨t9, a9, b9⟩ := kk _ _ ls hl (hM.set (H1 := H.setIfInBounds (xf X a1) (vp_cell ((xw X).2.1 t) (n1, .inl (va_cpy f g sp.toNatClampNeg dp.toNatClampNeg n.toNatClampNeg)))) h8 e1 (show (H.setIfInBounds (xf X a1) _)[m_f (xw X) a1]? = some _ by simp [Array.getElem?_setIfInBounds, hlt]; rfl) (by simp) oq) ⟨by simp; exact hS.1, fun q g1 g2 => by
      rw [oq q (fun e => g2 (by rw [e]; exact m_hiA h8))]
      exact hS.2.1 q g1 g2, fun q hq => by
      rcases List.mem_append.mp hq with h | h
      · exact hS.2.2 q h
      · obtain ⟨j, -, rfl⟩ := List.mem_map.mp h
        exact m_hiA h8⟩ _ hheap X'
  exact ⟨t9, step t9 a9, b9⟩
theorem ev_cpI (C : CX X own nm cc nL ret) {a0 a1 : Nat} {sp dp n : Int32} (k1 : Cond.methodLink own idx arraycopyName ∈ lw_all) (k2 : Cond.native arraycopyName ∈ lw_all) (k3 : Cond.static arraycopyName ∈ lw_all) (k4 : Cond.initialized "java/lang/System" ∈ lw_all) (hf : 1 ≤ (xR X).frames) (hlo : 40 ≤ (xR X).locals) (hst : (st.map fun v => v.category).sum ≤ 8) (d : decode cc pc = .ok (.invokestatic idx, 3)) (hv : cpI M a0 sp a1 dp n = some M2) (kk : EV X nL (pc + 3) l st kc ks M2) : EV X nL pc l (.int n :: .int dp :: .ref a1 :: .int sp :: .ref a0 :: st) kc ks M := ev_cpA C (t := 0) rfl rfl k1 k2 k3 k4 hf hlo hst d hv kk
theorem ev_cpB (C : CX X own nm cc nL ret) {a0 a1 : Nat} {sp dp n : Int32} (k1 : Cond.methodLink own idx arraycopyName ∈ lw_all) (k2 : Cond.native arraycopyName ∈ lw_all) (k3 : Cond.static arraycopyName ∈ lw_all) (k4 : Cond.initialized "java/lang/System" ∈ lw_all) (hf : 1 ≤ (xR X).frames) (hlo : 40 ≤ (xR X).locals) (hst : (st.map fun v => v.category).sum ≤ 8) (d : decode cc pc = .ok (.invokestatic idx, 3)) (hv : cpB M a0 sp a1 dp n = some M2) (kk : EV X nL (pc + 3) l st kc ks M2) : EV X nL pc l (.int n :: .int dp :: .ref a1 :: .int sp :: .ref a0 :: st) kc ks M := ev_cpA C (t := 4) rfl rfl k1 k2 k3 k4 hf hlo hst d hv kk
end EVN
theorem ok_0 : clOK RJ4 TJ4 4 0 tyJ4 := ⟨rfl, fun w hw => by
  obtain ⟨k, hk, rfl⟩ := List.mem_map.mp hw
  have hk := List.mem_range.mp hk
  match k, hk with
  | 0, _ => exact kw_356
  | 1, _ => exact kw_358
  | 2, _ => exact kw_360
  | 3, _ => exact kw_362
  | k + 4, h => exact absurd h (by omega), tyJ4_ok, nmJ4⟩
theorem newf_0 (f : Nat → Nat) : ∀ j, j < 4 → defaultValue (tyJ4 j) = vp_V (([.null, .int 0, .int 0, .int 0] : List Value).map (m_v f)) j := by
  intro j hj
  match j, hj with
  | 0, _ => rfl
  | 1, _ => rfl
  | 2, _ => rfl
  | 3, _ => rfl
  | k + 4, h => exact absurd h (by omega)
theorem ok_1 : clOK RX0 TX0 2 1 tyX0 := ⟨rfl, fun w hw => by
  obtain ⟨k, hk, rfl⟩ := List.mem_map.mp hw
  have hk := List.mem_range.mp hk
  match k, hk with
  | 0, _ => exact kw_252
  | 1, _ => exact kw_254
  | k + 2, h => exact absurd h (by omega), tyX0_ok, nmX0⟩
theorem newf_1 (f : Nat → Nat) : ∀ j, j < 2 → defaultValue (tyX0 j) = vp_V (([.null, .null] : List Value).map (m_v f)) j := by
  intro j hj
  match j, hj with
  | 0, _ => rfl
  | 1, _ => rfl
  | k + 2, h => exact absurd h (by omega)
theorem ok_2 : clOK RX1 TX1 9 2 tyX1 := ⟨rfl, fun w hw => by
  obtain ⟨k, hk, rfl⟩ := List.mem_map.mp hw
  have hk := List.mem_range.mp hk
  match k, hk with
  | 0, _ => exact kw_315
  | 1, _ => exact kw_317
  | 2, _ => exact kw_319
  | 3, _ => exact kw_321
  | 4, _ => exact kw_323
  | 5, _ => exact kw_325
  | 6, _ => exact kw_327
  | 7, _ => exact kw_329
  | 8, _ => exact kw_331
  | k + 9, h => exact absurd h (by omega), tyX1_ok, nmX1⟩
theorem newf_2 (f : Nat → Nat) : ∀ j, j < 9 → defaultValue (tyX1 j) = vp_V (([.null, .null, .null, .null, .int 0, .int 0, .int 0, .int 0, .int 0] : List Value).map (m_v f)) j := by
  intro j hj
  match j, hj with
  | 0, _ => rfl
  | 1, _ => rfl
  | 2, _ => rfl
  | 3, _ => rfl
  | 4, _ => rfl
  | 5, _ => rfl
  | 6, _ => rfl
  | 7, _ => rfl
  | 8, _ => rfl
  | k + 9, h => exact absurd h (by omega)
theorem ok_3 : clOK RX2 TX2 4 3 tyX2 := ⟨rfl, fun w hw => by
  obtain ⟨k, hk, rfl⟩ := List.mem_map.mp hw
  have hk := List.mem_range.mp hk
  match k, hk with
  | 0, _ => exact kw_167
  | 1, _ => exact kw_169
  | 2, _ => exact kw_171
  | 3, _ => exact kw_173
  | k + 4, h => exact absurd h (by omega), tyX2_ok, nmX2⟩
theorem newf_3 (f : Nat → Nat) : ∀ j, j < 4 → defaultValue (tyX2 j) = vp_V (([.null, .int 0, .int 0, .null] : List Value).map (m_v f)) j := by
  intro j hj
  match j, hj with
  | 0, _ => rfl
  | 1, _ => rfl
  | 2, _ => rfl
  | 3, _ => rfl
  | k + 4, h => exact absurd h (by omega)
theorem ok_4 : clOK RX4 TX4 4 4 tyX4 := ⟨rfl, fun w hw => by
  obtain ⟨k, hk, rfl⟩ := List.mem_map.mp hw
  have hk := List.mem_range.mp hk
  match k, hk with
  | 0, _ => exact kw_131
  | 1, _ => exact kw_133
  | 2, _ => exact kw_135
  | 3, _ => exact kw_137
  | k + 4, h => exact absurd h (by omega), tyX4_ok, nmX4⟩
theorem newf_4 (f : Nat → Nat) : ∀ j, j < 4 → defaultValue (tyX4 j) = vp_V (([.null, .null, .null, .int 0] : List Value).map (m_v f)) j := by
  intro j hj
  match j, hj with
  | 0, _ => rfl
  | 1, _ => rfl
  | 2, _ => rfl
  | 3, _ => rfl
  | k + 4, h => exact absurd h (by omega)
theorem ok_5 : clOK RX5 TX5 5 5 tyX5 := ⟨rfl, fun w hw => by
  obtain ⟨k, hk, rfl⟩ := List.mem_map.mp hw
  have hk := List.mem_range.mp hk
  match k, hk with
  | 0, _ => exact kw_197
  | 1, _ => exact kw_199
  | 2, _ => exact kw_201
  | 3, _ => exact kw_203
  | 4, _ => exact kw_205
  | k + 5, h => exact absurd h (by omega), tyX5_ok, nmX5⟩
theorem newf_5 (f : Nat → Nat) : ∀ j, j < 5 → defaultValue (tyX5 j) = vp_V (([.null, .int 0, .null, .null, .int 0] : List Value).map (m_v f)) j := by
  intro j hj
  match j, hj with
  | 0, _ => rfl
  | 1, _ => rfl
  | 2, _ => rfl
  | 3, _ => rfl
  | 4, _ => rfl
  | k + 5, h => exact absurd h (by omega)
theorem ok_6 : clOK RX6 TX6 4 6 tyX6 := ⟨rfl, fun w hw => by
  obtain ⟨k, hk, rfl⟩ := List.mem_map.mp hw
  have hk := List.mem_range.mp hk
  match k, hk with
  | 0, _ => exact kw_758
  | 1, _ => exact kw_760
  | 2, _ => exact kw_762
  | 3, _ => exact kw_764
  | k + 4, h => exact absurd h (by omega), tyX6_ok, nmX6⟩
theorem newf_6 (f : Nat → Nat) : ∀ j, j < 4 → defaultValue (tyX6 j) = vp_V (([.int 0, .int 0, .int 0, .int 0] : List Value).map (m_v f)) j := by
  intro j hj
  match j, hj with
  | 0, _ => rfl
  | 1, _ => rfl
  | 2, _ => rfl
  | 3, _ => rfl
  | k + 4, h => exact absurd h (by omega)
theorem ok_7 : clOK RX7 TX7 9 7 tyX7 := ⟨rfl, fun w hw => by
  obtain ⟨k, hk, rfl⟩ := List.mem_map.mp hw
  have hk := List.mem_range.mp hk
  match k, hk with
  | 0, _ => exact kw_276
  | 1, _ => exact kw_278
  | 2, _ => exact kw_280
  | 3, _ => exact kw_282
  | 4, _ => exact kw_284
  | 5, _ => exact kw_286
  | 6, _ => exact kw_288
  | 7, _ => exact kw_290
  | 8, _ => exact kw_292
  | k + 9, h => exact absurd h (by omega), tyX7_ok, nmX7⟩
theorem newf_7 (f : Nat → Nat) : ∀ j, j < 9 → defaultValue (tyX7 j) = vp_V (([.null, .int 0, .null, .int 0, .int 0, .int 0, .int 0, .int 0, .int 0] : List Value).map (m_v f)) j := by
  intro j hj
  match j, hj with
  | 0, _ => rfl
  | 1, _ => rfl
  | 2, _ => rfl
  | 3, _ => rfl
  | 4, _ => rfl
  | 5, _ => rfl
  | 6, _ => rfl
  | 7, _ => rfl
  | 8, _ => rfl
  | k + 9, h => exact absurd h (by omega)
theorem ok_8 : clOK RX8 TX8 3 8 tyX8 := ⟨rfl, fun w hw => by
  obtain ⟨k, hk, rfl⟩ := List.mem_map.mp hw
  have hk := List.mem_range.mp hk
  match k, hk with
  | 0, _ => exact kw_380
  | 1, _ => exact kw_382
  | 2, _ => exact kw_384
  | k + 3, h => exact absurd h (by omega), tyX8_ok, nmX8⟩
theorem newf_8 (f : Nat → Nat) : ∀ j, j < 3 → defaultValue (tyX8 j) = vp_V (([.null, .int 0, .null] : List Value).map (m_v f)) j := by
  intro j hj
  match j, hj with
  | 0, _ => rfl
  | 1, _ => rfl
  | 2, _ => rfl
  | k + 3, h => exact absurd h (by omega)
theorem ok_9 : clOK RX9 TX9 2 9 tyX9 := ⟨rfl, fun w hw => by
  obtain ⟨k, hk, rfl⟩ := List.mem_map.mp hw
  have hk := List.mem_range.mp hk
  match k, hk with
  | 0, _ => exact kw_238
  | 1, _ => exact kw_240
  | k + 2, h => exact absurd h (by omega), tyX9_ok, nmX9⟩
theorem newf_9 (f : Nat → Nat) : ∀ j, j < 2 → defaultValue (tyX9 j) = vp_V (([.null, .null] : List Value).map (m_v f)) j := by
  intro j hj
  match j, hj with
  | 0, _ => rfl
  | 1, _ => rfl
  | k + 2, h => exact absurd h (by omega)
theorem ok_10 : clOK RX10 TX10 4 10 tyX10 := ⟨rfl, fun w hw => by
  obtain ⟨k, hk, rfl⟩ := List.mem_map.mp hw
  have hk := List.mem_range.mp hk
  match k, hk with
  | 0, _ => exact kw_220
  | 1, _ => exact kw_222
  | 2, _ => exact kw_224
  | 3, _ => exact kw_226
  | k + 4, h => exact absurd h (by omega), tyX10_ok, nmX10⟩
theorem newf_10 (f : Nat → Nat) : ∀ j, j < 4 → defaultValue (tyX10 j) = vp_V (([.null, .null, .null, .int 0] : List Value).map (m_v f)) j := by
  intro j hj
  match j, hj with
  | 0, _ => rfl
  | 1, _ => rfl
  | 2, _ => rfl
  | 3, _ => rfl
  | k + 4, h => exact absurd h (by omega)
theorem ok_11 : clOK RX11 TX11 12 11 tyX11 := ⟨rfl, fun w hw => by
  obtain ⟨k, hk, rfl⟩ := List.mem_map.mp hw
  have hk := List.mem_range.mp hk
  match k, hk with
  | 0, _ => exact kw_404
  | 1, _ => exact kw_406
  | 2, _ => exact kw_408
  | 3, _ => exact kw_410
  | 4, _ => exact kw_412
  | 5, _ => exact kw_414
  | 6, _ => exact kw_416
  | 7, _ => exact kw_418
  | 8, _ => exact kw_420
  | 9, _ => exact kw_422
  | 10, _ => exact kw_424
  | 11, _ => exact kw_426
  | k + 12, h => exact absurd h (by omega), tyX11_ok, nmX11⟩
theorem newf_11 (f : Nat → Nat) : ∀ j, j < 12 → defaultValue (tyX11 j) = vp_V (([.null, .null, .int 0, .null, .null, .null, .null, .null, .null, .null, .null, .null] : List Value).map (m_v f)) j := by
  intro j hj
  match j, hj with
  | 0, _ => rfl
  | 1, _ => rfl
  | 2, _ => rfl
  | 3, _ => rfl
  | 4, _ => rfl
  | 5, _ => rfl
  | 6, _ => rfl
  | 7, _ => rfl
  | 8, _ => rfl
  | 9, _ => rfl
  | 10, _ => rfl
  | 11, _ => rfl
  | k + 12, h => exact absurd h (by omega)
theorem ok_12 : clOK RX12 TX12 29 12 tyX12 := ⟨rfl, fun w hw => by
  obtain ⟨k, hk, rfl⟩ := List.mem_map.mp hw
  have hk := List.mem_range.mp hk
  match k, hk with
  | 0, _ => exact kw_1188
  | 1, _ => exact kw_1190
  | 2, _ => exact kw_1192
  | 3, _ => exact kw_1194
  | 4, _ => exact kw_1196
  | 5, _ => exact kw_1198
  | 6, _ => exact kw_1200
  | 7, _ => exact kw_1202
  | 8, _ => exact kw_1204
  | 9, _ => exact kw_1206
  | 10, _ => exact kw_1208
  | 11, _ => exact kw_1210
  | 12, _ => exact kw_1212
  | 13, _ => exact kw_1214
  | 14, _ => exact kw_1216
  | 15, _ => exact kw_1218
  | 16, _ => exact kw_1220
  | 17, _ => exact kw_1222
  | 18, _ => exact kw_1224
  | 19, _ => exact kw_1226
  | 20, _ => exact kw_1228
  | 21, _ => exact kw_1230
  | 22, _ => exact kw_1232
  | 23, _ => exact kw_1234
  | 24, _ => exact kw_1236
  | 25, _ => exact kw_1238
  | 26, _ => exact kw_1240
  | 27, _ => exact kw_1242
  | 28, _ => exact kw_1244
  | k + 29, h => exact absurd h (by omega), tyX12_ok, nmX12⟩
theorem newf_12 (f : Nat → Nat) : ∀ j, j < 29 → defaultValue (tyX12 j) = vp_V (([.null, .null, .int 0, .int 0, .null, .int 0, .null, .null, .null, .null, .null, .null, .null, .null, .null, .int 0, .null, .null, .null, .null, .int 0, .int 0, .int 0, .null, .int 0, .int 0, .null, .null, .int 0] : List Value).map (m_v f)) j := by
  intro j hj
  match j, hj with
  | 0, _ => rfl
  | 1, _ => rfl
  | 2, _ => rfl
  | 3, _ => rfl
  | 4, _ => rfl
  | 5, _ => rfl
  | 6, _ => rfl
  | 7, _ => rfl
  | 8, _ => rfl
  | 9, _ => rfl
  | 10, _ => rfl
  | 11, _ => rfl
  | 12, _ => rfl
  | 13, _ => rfl
  | 14, _ => rfl
  | 15, _ => rfl
  | 16, _ => rfl
  | 17, _ => rfl
  | 18, _ => rfl
  | 19, _ => rfl
  | 20, _ => rfl
  | 21, _ => rfl
  | 22, _ => rfl
  | 23, _ => rfl
  | 24, _ => rfl
  | 25, _ => rfl
  | 26, _ => rfl
  | 27, _ => rfl
  | 28, _ => rfl
  | k + 29, h => exact absurd h (by omega)
theorem hd_X0_init : mOwn yX0_init 1 := by unfold mOwn; decide +kernel
theorem hd_X0_ofShowing : mOwn yX0_ofShowing 2 := by unfold mOwn; decide +kernel
theorem hd_X0_ofAsking : mOwn yX0_ofAsking 2 := by unfold mOwn; decide +kernel
theorem hd_X0_begin : mOwn yX0_begin 0 := by unfold mOwn; decide +kernel
theorem hd_X0_oneMore : mOwn yX0_oneMore 3 := by unfold mOwn; decide +kernel
theorem hd_X0_expectedAbove : mOwn yX0_expectedAbove 2 := by unfold mOwn; decide +kernel
theorem hd_X0_takings : mOwn yX0_takings 2 := by unfold mOwn; decide +kernel
theorem hd_X0_bestBooked : mOwn yX0_bestBooked 2 := by unfold mOwn; decide +kernel
theorem hd_X1_init : mOwn yX1_init 2 := by unfold mOwn; decide +kernel
theorem hd_X1_begin : mOwn yX1_begin 0 := by unfold mOwn; decide +kernel
theorem hd_X1_ask : mOwn yX1_ask 4 := by unfold mOwn; decide +kernel
theorem hd_X1_handGives : mOwn yX1_handGives 1 := by unfold mOwn; decide +kernel
theorem hd_X1_draw : mOwn yX1_draw 2 := by unfold mOwn; decide +kernel
theorem hd_X1_fareDrawn : mOwn yX1_fareDrawn 2 := by unfold mOwn; decide +kernel
theorem hd_X1_pricesBehind : mOwn yX1_pricesBehind 0 := by unfold mOwn; decide +kernel
theorem hd_X2_init : mOwn yX2_init 0 := by unfold mOwn; decide +kernel
theorem hd_X2_begin : mOwn yX2_begin 2 := by unfold mOwn; decide +kernel
theorem hd_X2_become : mOwn yX2_become 1 := by unfold mOwn; decide +kernel
theorem hd_X3_isOf : mOwn yX3_isOf 1 := by unfold mOwn; decide +kernel
theorem hd_X4_init : mOwn yX4_init 0 := by unfold mOwn; decide +kernel
theorem hd_X4_become : mOwn yX4_become 1 := by unfold mOwn; decide +kernel
theorem hd_X4_placeOf : mOwn yX4_placeOf 1 := by unfold mOwn; decide +kernel
theorem hd_X4_add : mOwn yX4_add 1 := by unfold mOwn; decide +kernel
theorem hd_X4_remove : mOwn yX4_remove 1 := by unfold mOwn; decide +kernel
theorem hd_X4_partOf : mOwn yX4_partOf 2 := by unfold mOwn; decide +kernel
theorem hd_X4_costOf : mOwn yX4_costOf 1 := by unfold mOwn; decide +kernel
theorem hd_X4_dearestBut : mOwn yX4_dearestBut 2 := by unfold mOwn; decide +kernel
theorem hd_X4_letsIn : mOwn yX4_letsIn 1 := by unfold mOwn; decide +kernel
theorem hd_X4_spellOn : mOwn yX4_spellOn 1 := by unfold mOwn; decide +kernel
theorem hd_X4_spellRoute : mOwn yX4_spellRoute 2 := by unfold mOwn; decide +kernel
theorem hd_X5_init : mOwn yX5_init 0 := by unfold mOwn; decide +kernel
theorem hd_X5_become : mOwn yX5_become 1 := by unfold mOwn; decide +kernel
theorem hd_X5_hasFare : mOwn yX5_hasFare 1 := by unfold mOwn; decide +kernel
theorem hd_X5_oddsTogether : mOwn yX5_oddsTogether 1 := by unfold mOwn; decide +kernel
theorem hd_X5_unlikePrices : mOwn yX5_unlikePrices 0 := by unfold mOwn; decide +kernel
theorem hd_X5_greatestPrice : mOwn yX5_greatestPrice 0 := by unfold mOwn; decide +kernel
theorem hd_X5_showing : mOwn yX5_showing 1 := by unfold mOwn; decide +kernel
theorem hd_X5_netBy : mOwn yX5_netBy 2 := by unfold mOwn; decide +kernel
theorem hd_X6_init : mOwn yX6_init 4 := by unfold mOwn; decide +kernel
theorem hd_X6_withLetter : mOwn yX6_withLetter 3 := by unfold mOwn; decide +kernel
theorem hd_X6_letter : mOwn yX6_letter 1 := by unfold mOwn; decide +kernel
theorem hd_X6_letters : mOwn yX6_letters 0 := by unfold mOwn; decide +kernel
theorem hd_X6_goesOver : mOwn yX6_goesOver 1 := by unfold mOwn; decide +kernel
theorem hd_X7_init : mOwn yX7_init 0 := by unfold mOwn; decide +kernel
theorem hd_X7_takeUp : mOwn yX7_takeUp 1 := by unfold mOwn; decide +kernel
theorem hd_X7_wipe : mOwn yX7_wipe 0 := by unfold mOwn; decide +kernel
theorem hd_X7_byteAt : mOwn yX7_byteAt 1 := by unfold mOwn; decide +kernel
theorem hd_X7_fareAsked : mOwn yX7_fareAsked 1 := by unfold mOwn; decide +kernel
theorem hd_X7_faultAsRequests : mOwn yX7_faultAsRequests 1 := by unfold mOwn; decide +kernel
theorem hd_X7_asName : mOwn yX7_asName 0 := by unfold mOwn; decide +kernel
theorem hd_X7_faultAsBook : mOwn yX7_faultAsBook 1 := by unfold mOwn; decide +kernel
theorem hd_X7_faultOfPart : mOwn yX7_faultOfPart 1 := by unfold mOwn; decide +kernel
theorem hd_X7_faultOfSign : mOwn yX7_faultOfSign 1 := by unfold mOwn; decide +kernel
theorem hd_X7_faultOfName : mOwn yX7_faultOfName 1 := by unfold mOwn; decide +kernel
theorem hd_X7_isRead : mOwn yX7_isRead 1 := by unfold mOwn; decide +kernel
theorem hd_X7_faultOfLegs : mOwn yX7_faultOfLegs 0 := by unfold mOwn; decide +kernel
theorem hd_X7_faultOfPrice : mOwn yX7_faultOfPrice 0 := by unfold mOwn; decide +kernel
theorem hd_X7_faultOfWanted : mOwn yX7_faultOfWanted 0 := by unfold mOwn; decide +kernel
theorem hd_X7_numberOf : mOwn yX7_numberOf 1 := by unfold mOwn; decide +kernel
theorem hd_X8_init : mOwn yX8_init 0 := by unfold mOwn; decide +kernel
theorem hd_X8_begin : mOwn yX8_begin 2 := by unfold mOwn; decide +kernel
theorem hd_X8_become : mOwn yX8_become 1 := by unfold mOwn; decide +kernel
theorem hd_X9_init : mOwn yX9_init 1 := by unfold mOwn; decide +kernel
theorem hd_X9_times : mOwn yX9_times 2 := by unfold mOwn; decide +kernel
theorem hd_X9_plus : mOwn yX9_plus 2 := by unfold mOwn; decide +kernel
theorem hd_X9_power : mOwn yX9_power 2 := by unfold mOwn; decide +kernel
theorem hd_X9_grossOf : mOwn yX9_grossOf 2 := by unfold mOwn; decide +kernel
theorem hd_X9_nextGross : mOwn yX9_nextGross 3 := by unfold mOwn; decide +kernel
theorem hd_X9_waysOf : mOwn yX9_waysOf 3 := by unfold mOwn; decide +kernel
theorem hd_X9_setsOf : mOwn yX9_setsOf 2 := by unfold mOwn; decide +kernel
theorem hd_X9_bitsOfDouble : mOwn yX9_bitsOfDouble 1 := by unfold mOwn; decide +kernel
theorem hd_X9_bitsOfFloat : mOwn yX9_bitsOfFloat 1 := by unfold mOwn; decide +kernel
theorem hd_X10_init : mOwn yX10_init 1 := by unfold mOwn; decide +kernel
theorem hd_X10_forget : mOwn yX10_forget 0 := by unfold mOwn; decide +kernel
theorem hd_X10_row : mOwn yX10_row 1 := by unfold mOwn; decide +kernel
theorem hd_X10_make : mOwn yX10_make 1 := by unfold mOwn; decide +kernel
theorem hd_X10_worthOf : mOwn yX10_worthOf 3 := by unfold mOwn; decide +kernel
theorem hd_X10_takes : mOwn yX10_takes 3 := by unfold mOwn; decide +kernel
theorem hd_X10_keptFrom : mOwn yX10_keptFrom 2 := by unfold mOwn; decide +kernel
theorem hd_X11_init : mOwn yX11_init 0 := by unfold mOwn; decide +kernel
theorem hd_X11_fare : mOwn yX11_fare 2 := by unfold mOwn; decide +kernel
theorem hd_X11_of : mOwn yX11_of 2 := by unfold mOwn; decide +kernel
theorem hd_X11_odds : mOwn yX11_odds 3 := by unfold mOwn; decide +kernel
theorem hd_X11_drop : mOwn yX11_drop 0 := by unfold mOwn; decide +kernel
theorem hd_X11_rule : mOwn yX11_rule 2 := by unfold mOwn; decide +kernel
theorem hd_X11_hand : mOwn yX11_hand 2 := by unfold mOwn; decide +kernel
theorem hd_X11_shows : mOwn yX11_shows 1 := by unfold mOwn; decide +kernel
theorem hd_X11_net : mOwn yX11_net 2 := by unfold mOwn; decide +kernel
theorem hd_X11_netCut : mOwn yX11_netCut 2 := by unfold mOwn; decide +kernel
theorem hd_X11_worth : mOwn yX11_worth 2 := by unfold mOwn; decide +kernel
theorem hd_X11_worthShort : mOwn yX11_worthShort 2 := by unfold mOwn; decide +kernel
theorem hd_X11_gross : mOwn yX11_gross 2 := by unfold mOwn; decide +kernel
theorem hd_X11_taken : mOwn yX11_taken 3 := by unfold mOwn; decide +kernel
theorem hd_X11_kept : mOwn yX11_kept 2 := by unfold mOwn; decide +kernel
theorem hd_X11_limit : mOwn yX11_limit 2 := by unfold mOwn; decide +kernel
theorem hd_X11_chance : mOwn yX11_chance 3 := by unfold mOwn; decide +kernel
theorem hd_X11_turned : mOwn yX11_turned 2 := by unfold mOwn; decide +kernel
theorem hd_X11_had : mOwn yX11_had 3 := by unfold mOwn; decide +kernel
theorem hd_X11_booked : mOwn yX11_booked 2 := by unfold mOwn; decide +kernel
theorem hd_X11_ways : mOwn yX11_ways 3 := by unfold mOwn; decide +kernel
theorem hd_X11_demand : mOwn yX11_demand 3 := by unfold mOwn; decide +kernel
theorem hd_X11_spill : mOwn yX11_spill 3 := by unfold mOwn; decide +kernel
theorem hd_X11_leg : mOwn yX11_leg 3 := by unfold mOwn; decide +kernel
theorem hd_X11_feed : mOwn yX11_feed 1 := by unfold mOwn; decide +kernel
theorem hd_X11_clear : mOwn yX11_clear 0 := by unfold mOwn; decide +kernel
theorem hd_X11_book : mOwn yX11_book 0 := by unfold mOwn; decide +kernel
theorem hd_X11_ends : mOwn yX11_ends 0 := by unfold mOwn; decide +kernel
theorem hd_X11_route : mOwn yX11_route 2 := by unfold mOwn; decide +kernel
theorem hd_X11_part : mOwn yX11_part 2 := by unfold mOwn; decide +kernel
theorem hd_X11_cost : mOwn yX11_cost 1 := by unfold mOwn; decide +kernel
theorem hd_X11_spell : mOwn yX11_spell 0 := by unfold mOwn; decide +kernel
theorem hd_X11_paper : mOwn yX11_paper 1 := by unfold mOwn; decide +kernel
theorem hd_X11_replay : mOwn yX11_replay 1 := by unfold mOwn; decide +kernel
theorem hd_X11_byHand : mOwn yX11_byHand 1 := by unfold mOwn; decide +kernel
theorem hd_X11_answerRequests : mOwn yX11_answerRequests 2 := by unfold mOwn; decide +kernel
theorem hd_X11_drawn : mOwn yX11_drawn 4 := by unfold mOwn; decide +kernel
theorem hd_X11_seed : mOwn yX11_seed 1 := by unfold mOwn; decide +kernel
theorem hd_X11_tray : mOwn yX11_tray 3 := by unfold mOwn; decide +kernel
theorem hd_X11_lays : mOwn yX11_lays 3 := by unfold mOwn; decide +kernel
theorem hd_X11_laid : mOwn yX11_laid 2 := by unfold mOwn; decide +kernel
theorem hd_X11_like : mOwn yX11_like 2 := by unfold mOwn; decide +kernel
theorem hd_X11_list : mOwn yX11_list 2 := by unfold mOwn; decide +kernel
theorem hd_X11_set : mOwn yX11_set 3 := by unfold mOwn; decide +kernel
theorem hd_X11_get : mOwn yX11_get 2 := by unfold mOwn; decide +kernel
theorem hd_X11_judge : mOwn yX11_judge 3 := by unfold mOwn; decide +kernel
theorem hd_X11_told : mOwn yX11_told 1 := by unfold mOwn; decide +kernel
theorem hd_X11_image : mOwn yX11_image 0 := by unfold mOwn; decide +kernel
theorem hd_X11_undo : mOwn yX11_undo 0 := by unfold mOwn; decide +kernel
theorem hd_X11_within : mOwn yX11_within 2 := by unfold mOwn; decide +kernel
theorem hd_X11_isStage : mOwn yX11_isStage 1 := by unfold mOwn; decide +kernel
theorem hd_X11_phaseOf : mOwn yX11_phaseOf 1 := by unfold mOwn; decide +kernel
theorem hd_X12_init : mOwn yX12_init 0 := by unfold mOwn; decide +kernel
theorem hd_X12_in : mOwn yX12_in 3 := by unfold mOwn; decide +kernel
theorem hd_X12_isFare : mOwn yX12_isFare 1 := by unfold mOwn; decide +kernel
theorem hd_X12_isStage : mOwn yX12_isStage 1 := by unfold mOwn; decide +kernel
theorem hd_X12_isSeat : mOwn yX12_isSeat 1 := by unfold mOwn; decide +kernel
theorem hd_X12_price : mOwn yX12_price 1 := by unfold mOwn; decide +kernel
theorem hd_X12_odds : mOwn yX12_odds 2 := by unfold mOwn; decide +kernel
theorem hd_X12_fare : mOwn yX12_fare 2 := by unfold mOwn; decide +kernel
theorem hd_X12_of : mOwn yX12_of 2 := by unfold mOwn; decide +kernel
theorem hd_X12_odds_ : mOwn yX12_odds_ 3 := by unfold mOwn; decide +kernel
theorem hd_X12_drop : mOwn yX12_drop 0 := by unfold mOwn; decide +kernel
theorem hd_X12_rule : mOwn yX12_rule 2 := by unfold mOwn; decide +kernel
theorem hd_X12_showing : mOwn yX12_showing 1 := by unfold mOwn; decide +kernel
theorem hd_X12_keeps : mOwn yX12_keeps 1 := by unfold mOwn; decide +kernel
theorem hd_X12_netOf : mOwn yX12_netOf 2 := by unfold mOwn; decide +kernel
theorem hd_X12_shows : mOwn yX12_shows 1 := by unfold mOwn; decide +kernel
theorem hd_X12_net : mOwn yX12_net 2 := by unfold mOwn; decide +kernel
theorem hd_X12_netCut : mOwn yX12_netCut 2 := by unfold mOwn; decide +kernel
theorem hd_X12_worthOf : mOwn yX12_worthOf 2 := by unfold mOwn; decide +kernel
theorem hd_X12_gain : mOwn yX12_gain 3 := by unfold mOwn; decide +kernel
theorem hd_X12_reckons : mOwn yX12_reckons 1 := by unfold mOwn; decide +kernel
theorem hd_X12_worth : mOwn yX12_worth 2 := by unfold mOwn; decide +kernel
theorem hd_X12_worthShort : mOwn yX12_worthShort 2 := by unfold mOwn; decide +kernel
theorem hd_X12_times : mOwn yX12_times 2 := by unfold mOwn; decide +kernel
theorem hd_X12_plus : mOwn yX12_plus 2 := by unfold mOwn; decide +kernel
theorem hd_X12_power : mOwn yX12_power 2 := by unfold mOwn; decide +kernel
theorem hd_X12_next : mOwn yX12_next 2 := by unfold mOwn; decide +kernel
theorem hd_X12_gross : mOwn yX12_gross 2 := by unfold mOwn; decide +kernel
theorem hd_X12_isTaken : mOwn yX12_isTaken 3 := by unfold mOwn; decide +kernel
theorem hd_X12_isToGo : mOwn yX12_isToGo 1 := by unfold mOwn; decide +kernel
theorem hd_X12_taken : mOwn yX12_taken 3 := by unfold mOwn; decide +kernel
theorem hd_X12_kept : mOwn yX12_kept 2 := by unfold mOwn; decide +kernel
theorem hd_X12_limit : mOwn yX12_limit 2 := by unfold mOwn; decide +kernel
theorem hd_X12_isBooked : mOwn yX12_isBooked 1 := by unfold mOwn; decide +kernel
theorem hd_X12_chances : mOwn yX12_chances 2 := by unfold mOwn; decide +kernel
theorem hd_X12_chance : mOwn yX12_chance 3 := by unfold mOwn; decide +kernel
theorem hd_X12_turnedOf : mOwn yX12_turnedOf 1 := by unfold mOwn; decide +kernel
theorem hd_X12_hadOf : mOwn yX12_hadOf 2 := by unfold mOwn; decide +kernel
theorem hd_X12_turned : mOwn yX12_turned 2 := by unfold mOwn; decide +kernel
theorem hd_X12_had : mOwn yX12_had 3 := by unfold mOwn; decide +kernel
theorem hd_X12_booked : mOwn yX12_booked 2 := by unfold mOwn; decide +kernel
theorem hd_X12_setsOf : mOwn yX12_setsOf 2 := by unfold mOwn; decide +kernel
theorem hd_X12_ways : mOwn yX12_ways 3 := by unfold mOwn; decide +kernel
theorem hd_X12_asks : mOwn yX12_asks 2 := by unfold mOwn; decide +kernel
theorem hd_X12_demand : mOwn yX12_demand 3 := by unfold mOwn; decide +kernel
theorem hd_X12_spill : mOwn yX12_spill 3 := by unfold mOwn; decide +kernel
theorem hd_X12_hand : mOwn yX12_hand 2 := by unfold mOwn; decide +kernel
theorem hd_X12_seed : mOwn yX12_seed 1 := by unfold mOwn; decide +kernel
theorem hd_X12_opens : mOwn yX12_opens 0 := by unfold mOwn; decide +kernel
theorem hd_X12_isByHand : mOwn yX12_isByHand 1 := by unfold mOwn; decide +kernel
theorem hd_X12_has : mOwn yX12_has 3 := by unfold mOwn; decide +kernel
theorem hd_X12_drawnFare : mOwn yX12_drawnFare 1 := by unfold mOwn; decide +kernel
theorem hd_X12_drawn : mOwn yX12_drawn 4 := by unfold mOwn; decide +kernel
theorem hd_X12_isLeg : mOwn yX12_isLeg 1 := by unfold mOwn; decide +kernel
theorem hd_X12_leg : mOwn yX12_leg 3 := by unfold mOwn; decide +kernel
theorem hd_X12_isRoute : mOwn yX12_isRoute 1 := by unfold mOwn; decide +kernel
theorem hd_X12_legs : mOwn yX12_legs 1 := by unfold mOwn; decide +kernel
theorem hd_X12_isOver : mOwn yX12_isOver 2 := by unfold mOwn; decide +kernel
theorem hd_X12_fee : mOwn yX12_fee 1 := by unfold mOwn; decide +kernel
theorem hd_X12_wanted : mOwn yX12_wanted 1 := by unfold mOwn; decide +kernel
theorem hd_X12_partOf : mOwn yX12_partOf 2 := by unfold mOwn; decide +kernel
theorem hd_X12_costOf : mOwn yX12_costOf 1 := by unfold mOwn; decide +kernel
theorem hd_X12_isIn : mOwn yX12_isIn 1 := by unfold mOwn; decide +kernel
theorem hd_X12_part : mOwn yX12_part 2 := by unfold mOwn; decide +kernel
theorem hd_X12_cost : mOwn yX12_cost 1 := by unfold mOwn; decide +kernel
theorem hd_X12_letters : mOwn yX12_letters 1 := by unfold mOwn; decide +kernel
theorem hd_X12_route : mOwn yX12_route 2 := by unfold mOwn; decide +kernel
theorem hd_X12_feed : mOwn yX12_feed 1 := by unfold mOwn; decide +kernel
theorem hd_X12_clear : mOwn yX12_clear 0 := by unfold mOwn; decide +kernel
theorem hd_X12_wrong : mOwn yX12_wrong 1 := by unfold mOwn; decide +kernel
theorem hd_X12_isSign : mOwn yX12_isSign 2 := by unfold mOwn; decide +kernel
theorem hd_X12_takes : mOwn yX12_takes 1 := by unfold mOwn; decide +kernel
theorem hd_X12_number : mOwn yX12_number 2 := by unfold mOwn; decide +kernel
theorem hd_X12_by : mOwn yX12_by 1 := by unfold mOwn; decide +kernel
theorem hd_X12_name : mOwn yX12_name 0 := by unfold mOwn; decide +kernel
theorem hd_X12_needs : mOwn yX12_needs 1 := by unfold mOwn; decide +kernel
theorem hd_X12_comes : mOwn yX12_comes 0 := by unfold mOwn; decide +kernel
theorem hd_X12_readRoute : mOwn yX12_readRoute 0 := by unfold mOwn; decide +kernel
theorem hd_X12_pours : mOwn yX12_pours 2 := by unfold mOwn; decide +kernel
theorem hd_X12_book : mOwn yX12_book 0 := by unfold mOwn; decide +kernel
theorem hd_X12_ends : mOwn yX12_ends 0 := by unfold mOwn; decide +kernel
theorem hd_X12_wrongSign : mOwn yX12_wrongSign 0 := by unfold mOwn; decide +kernel
theorem hd_X12_behind : mOwn yX12_behind 1 := by unfold mOwn; decide +kernel
theorem hd_X12_goes : mOwn yX12_goes 1 := by unfold mOwn; decide +kernel
theorem hd_X12_replay : mOwn yX12_replay 1 := by unfold mOwn; decide +kernel
theorem hd_X12_byHand : mOwn yX12_byHand 1 := by unfold mOwn; decide +kernel
theorem hd_X12_writes : mOwn yX12_writes 1 := by unfold mOwn; decide +kernel
theorem hd_X12_writesNumber : mOwn yX12_writesNumber 1 := by unfold mOwn; decide +kernel
theorem hd_X12_spell : mOwn yX12_spell 0 := by unfold mOwn; decide +kernel
theorem hd_X12_paper : mOwn yX12_paper 1 := by unfold mOwn; decide +kernel
theorem hd_X12_unlike : mOwn yX12_unlike 0 := by unfold mOwn; decide +kernel
theorem hd_X12_greatest : mOwn yX12_greatest 0 := by unfold mOwn; decide +kernel
theorem hd_X12_told : mOwn yX12_told 1 := by unfold mOwn; decide +kernel
theorem hd_X12_isTray : mOwn yX12_isTray 1 := by unfold mOwn; decide +kernel
theorem hd_X12_isUnder : mOwn yX12_isUnder 2 := by unfold mOwn; decide +kernel
theorem hd_X12_tray : mOwn yX12_tray 3 := by unfold mOwn; decide +kernel
theorem hd_X12_whyNot : mOwn yX12_whyNot 2 := by unfold mOwn; decide +kernel
theorem hd_X12_lays : mOwn yX12_lays 3 := by unfold mOwn; decide +kernel
theorem hd_X12_laid : mOwn yX12_laid 2 := by unfold mOwn; decide +kernel
theorem hd_X12_like : mOwn yX12_like 2 := by unfold mOwn; decide +kernel
theorem hd_X12_list : mOwn yX12_list 2 := by unfold mOwn; decide +kernel
theorem hd_X12_set : mOwn yX12_set 3 := by unfold mOwn; decide +kernel
theorem hd_X12_get : mOwn yX12_get 2 := by unfold mOwn; decide +kernel
theorem hd_X12_judge : mOwn yX12_judge 3 := by unfold mOwn; decide +kernel
theorem hd_X12_image : mOwn yX12_image 0 := by unfold mOwn; decide +kernel
theorem hd_X12_undo : mOwn yX12_undo 0 := by unfold mOwn; decide +kernel
theorem hd_J5_init_d00df : mOwn yJ5_init_d00df 1 := by unfold mOwn; decide +kernel
theorem hd_J5_length_8abf5 : mOwn yJ5_length_8abf5 0 := by unfold mOwn; decide +kernel
theorem hd_J5_ensureCapacityInternal_d00df : mOwn yJ5_ensureCapacityInternal_d00df 1 := by unfold mOwn; decide +kernel
theorem hd_J5_newCapacity_0f7a4 : mOwn yJ5_newCapacity_0f7a4 1 := by unfold mOwn; decide +kernel
theorem hd_J5_inflate_da8c8 : mOwn yJ5_inflate_da8c8 0 := by unfold mOwn; decide +kernel
theorem hd_J5_setLength_d00df : mOwn yJ5_setLength_d00df 1 := by unfold mOwn; decide +kernel
theorem hd_J5_charAt_5068e : mOwn yJ5_charAt_5068e 1 := by unfold mOwn; decide +kernel
theorem hd_J5_append_3fe6f : mOwn yJ5_append_3fe6f 1 := by unfold mOwn; decide +kernel
theorem hd_J5_append_c97b9 : mOwn yJ5_append_c97b9 1 := by unfold mOwn; decide +kernel
theorem hd_J5_isLatin1_aae02 : mOwn yJ5_isLatin1_aae02 0 := by unfold mOwn; decide +kernel
theorem hd_Jxe99ae_isNaN_b9ae7 : mOwn yJxe99ae_isNaN_b9ae7 1 := by unfold mOwn; decide +kernel
theorem hd_Jxe99ae_doubleToLongBits_ccdee : mOwn yJxe99ae_doubleToLongBits_ccdee 1 := by unfold mOwn; decide +kernel
theorem hd_Jxf58ca_isNaN_12338 : mOwn yJxf58ca_isNaN_12338 1 := by unfold mOwn; decide +kernel
theorem hd_Jxf58ca_floatToIntBits_5c35a : mOwn yJxf58ca_floatToIntBits_5c35a 1 := by unfold mOwn; decide +kernel
theorem hd_J6_getChars_ba4f3 : mOwn yJ6_getChars_ba4f3 3 := by unfold mOwn; decide +kernel
theorem hd_J6_stringSize_0f7a4 : mOwn yJ6_stringSize_0f7a4 1 := by unfold mOwn; decide +kernel
theorem hd_J9_max_7cf53 : mOwn yJ9_max_7cf53 2 := by unfold mOwn; decide +kernel
theorem hd_J9_min_7cf53 : mOwn yJ9_min_7cf53 2 := by unfold mOwn; decide +kernel
theorem hd_J0_checkIndex_df160 : mOwn yJ0_checkIndex_df160 2 := by unfold mOwn; decide +kernel
theorem hd_J0_checkBoundsOffCount_cabcc : mOwn yJ0_checkBoundsOffCount_cabcc 3 := by unfold mOwn; decide +kernel
theorem hd_J0_checkBoundsBeginEnd_23922 : mOwn yJ0_checkBoundsBeginEnd_23922 3 := by unfold mOwn; decide +kernel
theorem hd_J4_init_da8c8 : mOwn yJ4_init_da8c8 0 := by unfold mOwn; decide +kernel
theorem hd_J4_append_cf468 : mOwn yJ4_append_cf468 1 := by unfold mOwn; decide +kernel
theorem hd_J4_append_bf812 : mOwn yJ4_append_bf812 1 := by unfold mOwn; decide +kernel
theorem hd_J4_charAt_5068e : mOwn yJ4_charAt_5068e 1 := by unfold mOwn; decide +kernel
theorem hd_J4_setLength_d00df : mOwn yJ4_setLength_d00df 1 := by unfold mOwn; decide +kernel
theorem hd_J4_length_8abf5 : mOwn yJ4_length_8abf5 0 := by unfold mOwn; decide +kernel
theorem hd_J1_canEncode_fc78d : mOwn yJ1_canEncode_fc78d 1 := by unfold mOwn; decide +kernel
theorem hd_J1_fillNull_b72d1 : mOwn yJ1_fillNull_b72d1 3 := by unfold mOwn; decide +kernel
theorem hd_J1_inflate_0e8fd : mOwn yJ1_inflate_0e8fd 5 := by unfold mOwn; decide +kernel
theorem hd_J2_newBytesFor_77867 : mOwn yJ2_newBytesFor_77867 1 := by unfold mOwn; decide +kernel
theorem hd_J2_newBytesLength_0f7a4 : mOwn yJ2_newBytesLength_0f7a4 1 := by unfold mOwn; decide +kernel
theorem hd_J2_putChar_b72d1 : mOwn yJ2_putChar_b72d1 3 := by unfold mOwn; decide +kernel
theorem hd_J2_getChar_3b067 : mOwn yJ2_getChar_3b067 2 := by unfold mOwn; decide +kernel
theorem hd_J2_length_9d52b : mOwn yJ2_length_9d52b 1 := by unfold mOwn; decide +kernel
theorem hd_J2_fillNull_b72d1 : mOwn yJ2_fillNull_b72d1 3 := by unfold mOwn; decide +kernel
theorem hd_J2_putCharSB_b72d1 : mOwn yJ2_putCharSB_b72d1 3 := by unfold mOwn; decide +kernel
theorem hd_J2_getChars_46870 : mOwn yJ2_getChars_46870 4 := by unfold mOwn; decide +kernel
theorem hd_J2_inflate_0e8fd : mOwn yJ2_inflate_0e8fd 5 := by unfold mOwn; decide +kernel
theorem hd_J2_getChars_ba4f3 : mOwn yJ2_getChars_ba4f3 3 := by unfold mOwn; decide +kernel
theorem hd_J2_checkIndex_2214a : mOwn yJ2_checkIndex_2214a 2 := by unfold mOwn; decide +kernel
theorem hd_J2_checkBoundsBeginEnd_d044e : mOwn yJ2_checkBoundsBeginEnd_d044e 3 := by unfold mOwn; decide +kernel
theorem hd_J2_checkBoundsOffCount_d044e : mOwn yJ2_checkBoundsOffCount_d044e 3 := by unfold mOwn; decide +kernel
theorem hd_J7_rangeCheck_23922 : mOwn yJ7_rangeCheck_23922 3 := by unfold mOwn; decide +kernel
theorem hd_J7_fill_d0a16 : mOwn yJ7_fill_d0a16 2 := by unfold mOwn; decide +kernel
theorem hd_J7_fill_53178 : mOwn yJ7_fill_53178 2 := by unfold mOwn; decide +kernel
theorem hd_J7_fill_eb02e : mOwn yJ7_fill_eb02e 4 := by unfold mOwn; decide +kernel
theorem hd_J7_fill_7f8df : mOwn yJ7_fill_7f8df 2 := by unfold mOwn; decide +kernel
theorem hd_J7_copyOf_9075b : mOwn yJ7_copyOf_9075b 2 := by unfold mOwn; decide +kernel
theorem hd_J8_newLength_cabcc : mOwn yJ8_newLength_cabcc 3 := by unfold mOwn; decide +kernel
theorem hd_J8_hugeLength_7cf53 : mOwn yJ8_hugeLength_7cf53 2 := by unfold mOwn; decide +kernel
theorem hd_J3_checkIndex_8e157 : mOwn yJ3_checkIndex_8e157 3 := by unfold mOwn; decide +kernel
theorem hd_J3_checkFromToIndex_8c36e : mOwn yJ3_checkFromToIndex_8c36e 4 := by unfold mOwn; decide +kernel
theorem hd_J3_checkFromIndexSize_8c36e : mOwn yJ3_checkFromIndexSize_8c36e 4 := by unfold mOwn; decide +kernel
end
section
/-! FareLimits within(II)Z -/
theorem dX11_within_0 : decode prog_1_method_50_code 0 = .ok (.iload_n 0, 1) := by decide +kernel
theorem dX11_within_1 : decode prog_1_method_50_code 1 = .ok (.ifCond .lt 12, 3) := by decide +kernel
theorem dX11_within_4 : decode prog_1_method_50_code 4 = .ok (.iload_n 0, 1) := by decide +kernel
theorem dX11_within_5 : decode prog_1_method_50_code 5 = .ok (.iload_n 1, 1) := by decide +kernel
theorem dX11_within_6 : decode prog_1_method_50_code 6 = .ok (.if_icmp .gt 7, 3) := by decide +kernel
theorem dX11_within_9 : decode prog_1_method_50_code 9 = .ok (.iconst 1, 1) := by decide +kernel
theorem dX11_within_10 : decode prog_1_method_50_code 10 = .ok (.goto 4, 3) := by decide +kernel
theorem dX11_within_13 : decode prog_1_method_50_code 13 = .ok (.iconst 0, 1) := by decide +kernel
theorem dX11_within_14 : decode prog_1_method_50_code 14 = .ok (.ireturn, 1) := by decide +kernel
def m_X11_within (i0 : Int32) (i1 : Int32) : Option (Int32) :=
  if i0 < 0 then (
    some 0) else (
    if i1 < i0 then (
      some 0) else (
      some 1))
set_option maxHeartbeats 4000000 in
set_option maxRecDepth 100000 in
theorem t_X11_within {L0 : Launch} {M : mM} {i0 : Int32} {i1 : Int32} {res : Int32} (hf : m_X11_within i0 i1 = some res) : CT L0 yX11_within prog_1_method_50_code 2 (some .boolean) 0 0 0 0 [.int i0, .int i1] M (some (.int res)) M := by
  refine CT.of (by decide +kernel) (Nat.le_of_ble_eq_true rfl) fun X C E => ?_
  have C : CX X RX11 "within" prog_1_method_50_code 2 (some .boolean) := C
  show EV X 2 0 [(0, .int i0), (1, .int i1)] [] 0 0 M
  unfold m_X11_within at hf
  refine ev_iload_n C dX11_within_0 rfl (q := 0) rfl ?_
  refine ev_if_lt (tgt := 13) C dX11_within_1 (by decide) (fun hc => ?_) (fun hc => ?_)
  · have hf := oit hf hc
    refine ev_iconst (v := 0) C dX11_within_13 (by decide) ?_
    cases hf
    exact ev_zret C (by decide) E (Nat.le_refl 0) (Nat.le_refl 0) dX11_within_14
  · have hf := oie hf hc
    refine ev_iload_n C dX11_within_4 rfl (q := 0) rfl ?_
    refine ev_iload_n C dX11_within_5 rfl (q := 1) rfl ?_
    refine ev_icmp_gt (tgt := 13) C dX11_within_6 (by decide) (fun hc => ?_) (fun hc => ?_)
    · have hf := oit hf hc
      refine ev_iconst (v := 0) C dX11_within_13 (by decide) ?_
      cases hf
      exact ev_zret C (by decide) E (Nat.le_refl 0) (Nat.le_refl 0) dX11_within_14
    · have hf := oie hf hc
      refine ev_iconst (v := 1) C dX11_within_9 (by decide) ?_
      refine ev_goto (tgt := 14) C dX11_within_10 (by decide) ?_
      cases hf
      exact ev_zret C (by decide) E (Nat.le_refl 0) (Nat.le_refl 0) dX11_within_14
/-! FareLimits$Plan showing(I)D -/
theorem dX5_showing_0 : decode prog_7_method_7_code 0 = .ok (.dconst 1, 1) := by decide +kernel
theorem dX5_showing_1 : decode prog_7_method_7_code 1 = .ok (.aload_n 0, 1) := by decide +kernel
theorem dX5_showing_2 : decode prog_7_method_7_code 2 = .ok (.getfield 17, 3) := by decide +kernel
theorem dX5_showing_5 : decode prog_7_method_7_code 5 = .ok (.iconst 1, 1) := by decide +kernel
theorem dX5_showing_6 : decode prog_7_method_7_code 6 = .ok (.iaload, 1) := by decide +kernel
theorem dX5_showing_7 : decode prog_7_method_7_code 7 = .ok (.i2d, 1) := by decide +kernel
theorem dX5_showing_8 : decode prog_7_method_7_code 8 = .ok (.ldc2_w 61, 3) := by decide +kernel
theorem dX5_showing_11 : decode prog_7_method_7_code 11 = .ok (.ddiv, 1) := by decide +kernel
theorem dX5_showing_12 : decode prog_7_method_7_code 12 = .ok (.dsub, 1) := by decide +kernel
theorem dX5_showing_13 : decode prog_7_method_7_code 13 = .ok (.dstore_n 2, 1) := by decide +kernel
theorem dX5_showing_14 : decode prog_7_method_7_code 14 = .ok (.dconst 1, 1) := by decide +kernel
theorem dX5_showing_15 : decode prog_7_method_7_code 15 = .ok (.aload_n 0, 1) := by decide +kernel
theorem dX5_showing_16 : decode prog_7_method_7_code 16 = .ok (.getfield 17, 3) := by decide +kernel
theorem dX5_showing_19 : decode prog_7_method_7_code 19 = .ok (.iconst 2, 1) := by decide +kernel
theorem dX5_showing_20 : decode prog_7_method_7_code 20 = .ok (.iaload, 1) := by decide +kernel
theorem dX5_showing_21 : decode prog_7_method_7_code 21 = .ok (.i2d, 1) := by decide +kernel
theorem dX5_showing_22 : decode prog_7_method_7_code 22 = .ok (.ldc2_w 61, 3) := by decide +kernel
theorem dX5_showing_25 : decode prog_7_method_7_code 25 = .ok (.ddiv, 1) := by decide +kernel
theorem dX5_showing_26 : decode prog_7_method_7_code 26 = .ok (.dsub, 1) := by decide +kernel
theorem dX5_showing_27 : decode prog_7_method_7_code 27 = .ok (.dstore 4, 2) := by decide +kernel
theorem dX5_showing_29 : decode prog_7_method_7_code 29 = .ok (.iconst 0, 1) := by decide +kernel
theorem dX5_showing_30 : decode prog_7_method_7_code 30 = .ok (.istore 6, 2) := by decide +kernel
theorem dX5_showing_32 : decode prog_7_method_7_code 32 = .ok (.iload 6, 2) := by decide +kernel
theorem dX5_showing_34 : decode prog_7_method_7_code 34 = .ok (.iload_n 1, 1) := by decide +kernel
theorem dX5_showing_35 : decode prog_7_method_7_code 35 = .ok (.if_icmp .ge 15, 3) := by decide +kernel
theorem dX5_showing_38 : decode prog_7_method_7_code 38 = .ok (.dload 4, 2) := by decide +kernel
theorem dX5_showing_40 : decode prog_7_method_7_code 40 = .ok (.dload_n 2, 1) := by decide +kernel
theorem dX5_showing_41 : decode prog_7_method_7_code 41 = .ok (.dmul, 1) := by decide +kernel
theorem dX5_showing_42 : decode prog_7_method_7_code 42 = .ok (.dstore 4, 2) := by decide +kernel
theorem dX5_showing_44 : decode prog_7_method_7_code 44 = .ok (.iinc 6 1, 3) := by decide +kernel
theorem dX5_showing_47 : decode prog_7_method_7_code 47 = .ok (.goto (-15), 3) := by decide +kernel
theorem dX5_showing_50 : decode prog_7_method_7_code 50 = .ok (.dload 4, 2) := by decide +kernel
theorem dX5_showing_52 : decode prog_7_method_7_code 52 = .ok (.dreturn, 1) := by decide +kernel
def m_X5_showing_L32 (N : Nat) (M : mM)  : Nat → Int32 → UInt64 → UInt64 → Int32 → Option (UInt64)
  | 0, _, _, _, _ => none
  | n + 1, i1, d2, d4, i6 =>
    if i1 ≤ i6 then (
      some d4) else (
      (oD (FP.dmul d4 d2)).bind fun x1 =>
      (m_X5_showing_L32 N M  n) i1 d2 x1 (i6 + 1))
set_option maxHeartbeats 4000000 in
set_option maxRecDepth 100000 in
theorem t_X5_showing_L32 {X : mX} {M : mM} {L0 : Launch} {res : UInt64} {N : Nat} (C : CX X RX5 "showing" prog_7_method_7_code 7 (some .double)) (E : EX X L0 0 0 0 0 (some (.double res)) M)   : ∀ (n : Nat) (i1 : Int32) (d2 : UInt64) (d4 : UInt64) (i6 : Int32), m_X5_showing_L32 N M  n i1 d2 d4 i6 = some res → EV X 7 32 [(1, .int i1), (2, .double d2), (4, .double d4), (6, .int i6)] [] 0 0 M := by
  intro n
  induction n with
  | zero => intro i1 d2 d4 i6 hf; cases (show (none : Option (UInt64)) = some res from hf)
  | succ n ih =>
    intro i1 d2 d4 i6 hf
    rw [m_X5_showing_L32] at hf
    refine ev_iload C dX5_showing_32 (q := 3) rfl ?_
    refine ev_iload_n C dX5_showing_34 rfl (q := 0) rfl ?_
    refine ev_icmp_ge (tgt := 50) C dX5_showing_35 (by decide) (fun hc => ?_) (fun hc => ?_)
    · have hf := oit hf hc
      refine ev_dload C dX5_showing_50 (q := 2) rfl ?_
      cases hf
      exact ev_dret C E (Nat.le_refl 0) (Nat.le_refl 0) dX5_showing_52
    · have hf := oie hf hc
      refine ev_dload C dX5_showing_38 (q := 2) rfl ?_
      refine ev_dload_n C dX5_showing_40 rfl (q := 1) rfl ?_
      obtain ⟨x1, e2, hf⟩ := obnd hf
      obtain ⟨e2, e2q⟩ := oD_eq e2
      refine ev_dmul C dX5_showing_41 e2 ?_
      rw [← e2q]
      refine ev_dstore (l' := [(4, .double x1), (1, .int i1), (2, .double d2), (6, .int i6)]) C dX5_showing_42 (by decide) rfl ?_
      refine ev_iinc (v := i6 + 1) (l' := [(6, .int (i6 + 1)), (4, .double x1), (1, .int i1), (2, .double d2)]) C dX5_showing_44 (q := 3) rfl rfl (by decide) rfl ?_
      refine ev_goto (tgt := 32) C dX5_showing_47 (by decide) ?_
      refine ev_sub [2, 3, 1, 0] rfl ?_
      exact ih i1 d2 x1 (i6 + 1) hf
def m_X5_showing (N : Nat) (M : mM) (a0 : Nat) (i1 : Int32) (M : mM) : Option (UInt64) :=
  (fR M a0 5 2).bind fun x1 =>
  (aI 0 M x1 1).bind fun x3 =>
  (oD (FP.ddiv (FP.i2d x3) 4636737291354636288)).bind fun x5 =>
  (oD (FP.dsub FP.dconst1 x5)).bind fun x7 =>
  (fR M a0 5 2).bind fun x9 =>
  (aI 0 M x9 2).bind fun x11 =>
  (oD (FP.ddiv (FP.i2d x11) 4636737291354636288)).bind fun x13 =>
  (oD (FP.dsub FP.dconst1 x13)).bind fun x15 =>
  m_X5_showing_L32 N M  N i1 x7 x15 0
set_option maxHeartbeats 4000000 in
set_option maxRecDepth 100000 in
theorem t_X5_showing {L0 : Launch} {M : mM} {N : Nat} {a0 : Nat} {i1 : Int32} {res : UInt64} (hf : m_X5_showing N M a0 i1 M = some res) : CT L0 yX5_showing prog_7_method_7_code 7 (some .double) 0 0 0 0 [.ref a0, .int i1] M (some (.double res)) M := by
  refine CT.of (by decide +kernel) (Nat.le_of_ble_eq_true rfl) fun X C E => ?_
  have C : CX X RX5 "showing" prog_7_method_7_code 7 (some .double) := C
  show EV X 7 0 [(0, .ref a0), (1, .int i1)] [] 0 0 M
  unfold m_X5_showing at hf
  refine ev_dconst1 C dX5_showing_0 ?_
  refine ev_aload_n C dX5_showing_1 rfl (q := 0) rfl ?_
  obtain ⟨x1, e2, hf⟩ := obnd hf
  refine ev_get (k := 2) C ok_5 dX5_showing_2 (by decide) kw_187 (fR_V e2) ?_
  refine ev_iconst (v := 1) C dX5_showing_5 (by decide) ?_
  obtain ⟨x3, e4, hf⟩ := obnd hf
  refine ev_iald C dX5_showing_6 e4 ?_
  refine ev_i2d C dX5_showing_7 ?_
  refine ev_ldc2d (v := 4636737291354636288) C dX5_showing_8 kw_485 ?_
  obtain ⟨x5, e6, hf⟩ := obnd hf
  obtain ⟨e6, e6q⟩ := oD_eq e6
  refine ev_ddiv C dX5_showing_11 e6 ?_
  rw [← e6q]
  obtain ⟨x7, e8, hf⟩ := obnd hf
  obtain ⟨e8, e8q⟩ := oD_eq e8
  refine ev_dsub C dX5_showing_12 e8 ?_
  rw [← e8q]
  refine ev_dstore_n (l' := [(2, .double x7), (0, .ref a0), (1, .int i1)]) C dX5_showing_13 rfl (by decide) rfl ?_
  refine ev_dconst1 C dX5_showing_14 ?_
  refine ev_aload_n C dX5_showing_15 rfl (q := 1) rfl ?_
  obtain ⟨x9, e10, hf⟩ := obnd hf
  refine ev_get (k := 2) C ok_5 dX5_showing_16 (by decide) kw_187 (fR_V e10) ?_
  refine ev_iconst (v := 2) C dX5_showing_19 (by decide) ?_
  obtain ⟨x11, e12, hf⟩ := obnd hf
  refine ev_iald C dX5_showing_20 e12 ?_
  refine ev_i2d C dX5_showing_21 ?_
  refine ev_ldc2d (v := 4636737291354636288) C dX5_showing_22 kw_485 ?_
  obtain ⟨x13, e14, hf⟩ := obnd hf
  obtain ⟨e14, e14q⟩ := oD_eq e14
  refine ev_ddiv C dX5_showing_25 e14 ?_
  rw [← e14q]
  obtain ⟨x15, e16, hf⟩ := obnd hf
  obtain ⟨e16, e16q⟩ := oD_eq e16
  refine ev_dsub C dX5_showing_26 e16 ?_
  rw [← e16q]
  refine ev_dstore (l' := [(4, .double x15), (2, .double x7), (0, .ref a0), (1, .int i1)]) C dX5_showing_27 (by decide) rfl ?_
  refine ev_iconst (v := 0) C dX5_showing_29 (by decide) ?_
  refine ev_istore (l' := [(6, .int 0), (4, .double x15), (2, .double x7), (0, .ref a0), (1, .int i1)]) C dX5_showing_30 (by decide) rfl ?_
  refine ev_sub [4, 2, 1, 0] rfl ?_
  exact t_X5_showing_L32 C E   N i1 x7 x15 0 hf
/-! FareLimitsModel in(JJJ)Z -/
theorem dX12_in_0 : decode prog_14_method_2_code 0 = .ok (.lload_n 0, 1) := by decide +kernel
theorem dX12_in_1 : decode prog_14_method_2_code 1 = .ok (.lload_n 2, 1) := by decide +kernel
theorem dX12_in_2 : decode prog_14_method_2_code 2 = .ok (.lcmp, 1) := by decide +kernel
theorem dX12_in_3 : decode prog_14_method_2_code 3 = .ok (.ifCond .lt 14, 3) := by decide +kernel
theorem dX12_in_6 : decode prog_14_method_2_code 6 = .ok (.lload_n 0, 1) := by decide +kernel
theorem dX12_in_7 : decode prog_14_method_2_code 7 = .ok (.lload 4, 2) := by decide +kernel
theorem dX12_in_9 : decode prog_14_method_2_code 9 = .ok (.lcmp, 1) := by decide +kernel
theorem dX12_in_10 : decode prog_14_method_2_code 10 = .ok (.ifCond .gt 7, 3) := by decide +kernel
theorem dX12_in_13 : decode prog_14_method_2_code 13 = .ok (.iconst 1, 1) := by decide +kernel
theorem dX12_in_14 : decode prog_14_method_2_code 14 = .ok (.goto 4, 3) := by decide +kernel
theorem dX12_in_17 : decode prog_14_method_2_code 17 = .ok (.iconst 0, 1) := by decide +kernel
theorem dX12_in_18 : decode prog_14_method_2_code 18 = .ok (.ireturn, 1) := by decide +kernel
def m_X12_in (j0 : Int64) (j2 : Int64) (j4 : Int64) : Option (Int32) :=
  if (lg_cmp j0 j2) < 0 then (
    some 0) else (
    if 0 < (lg_cmp j0 j4) then (
      some 0) else (
      some 1))
set_option maxHeartbeats 4000000 in
set_option maxRecDepth 100000 in
theorem t_X12_in {L0 : Launch} {M : mM} {j0 : Int64} {j2 : Int64} {j4 : Int64} {res : Int32} (hf : m_X12_in j0 j2 j4 = some res) : CT L0 yX12_in prog_14_method_2_code 6 (some .boolean) 0 0 0 0 [.long j0, .long j2, .long j4] M (some (.int res)) M := by
  refine CT.of (by decide +kernel) (Nat.le_of_ble_eq_true rfl) fun X C E => ?_
  have C : CX X RX12 "in" prog_14_method_2_code 6 (some .boolean) := C
  show EV X 6 0 [(0, .long j0), (2, .long j2), (4, .long j4)] [] 0 0 M
  unfold m_X12_in at hf
  refine ev_lload_n C dX12_in_0 rfl (q := 0) rfl ?_
  refine ev_lload_n C dX12_in_1 rfl (q := 1) rfl ?_
  refine ev_lcmp C dX12_in_2 ?_
  refine ev_if_lt (tgt := 17) C dX12_in_3 (by decide) (fun hc => ?_) (fun hc => ?_)
  · have hf := oit hf hc
    refine ev_iconst (v := 0) C dX12_in_17 (by decide) ?_
    cases hf
    exact ev_zret C (by decide) E (Nat.le_refl 0) (Nat.le_refl 0) dX12_in_18
  · have hf := oie hf hc
    refine ev_lload_n C dX12_in_6 rfl (q := 0) rfl ?_
    refine ev_lload C dX12_in_7 (q := 2) rfl ?_
    refine ev_lcmp C dX12_in_9 ?_
    refine ev_if_gt (tgt := 17) C dX12_in_10 (by decide) (fun hc => ?_) (fun hc => ?_)
    · have hf := oit hf hc
      refine ev_iconst (v := 0) C dX12_in_17 (by decide) ?_
      cases hf
      exact ev_zret C (by decide) E (Nat.le_refl 0) (Nat.le_refl 0) dX12_in_18
    · have hf := oie hf hc
      refine ev_iconst (v := 1) C dX12_in_13 (by decide) ?_
      refine ev_goto (tgt := 18) C dX12_in_14 (by decide) ?_
      cases hf
      exact ev_zret C (by decide) E (Nat.le_refl 0) (Nat.le_refl 0) dX12_in_18
/-! FareLimitsModel showing(I)D -/
theorem dX12_showing_0 : decode prog_14_method_13_code 0 = .ok (.dconst 1, 1) := by decide +kernel
theorem dX12_showing_1 : decode prog_14_method_13_code 1 = .ok (.aload_n 0, 1) := by decide +kernel
theorem dX12_showing_2 : decode prog_14_method_13_code 2 = .ok (.getfield 9, 3) := by decide +kernel
theorem dX12_showing_5 : decode prog_14_method_13_code 5 = .ok (.iconst 2, 1) := by decide +kernel
theorem dX12_showing_6 : decode prog_14_method_13_code 6 = .ok (.iaload, 1) := by decide +kernel
theorem dX12_showing_7 : decode prog_14_method_13_code 7 = .ok (.i2d, 1) := by decide +kernel
theorem dX12_showing_8 : decode prog_14_method_13_code 8 = .ok (.ldc2_w 98, 3) := by decide +kernel
theorem dX12_showing_11 : decode prog_14_method_13_code 11 = .ok (.ddiv, 1) := by decide +kernel
theorem dX12_showing_12 : decode prog_14_method_13_code 12 = .ok (.dsub, 1) := by decide +kernel
theorem dX12_showing_13 : decode prog_14_method_13_code 13 = .ok (.dstore_n 2, 1) := by decide +kernel
theorem dX12_showing_14 : decode prog_14_method_13_code 14 = .ok (.dconst 1, 1) := by decide +kernel
theorem dX12_showing_15 : decode prog_14_method_13_code 15 = .ok (.aload_n 0, 1) := by decide +kernel
theorem dX12_showing_16 : decode prog_14_method_13_code 16 = .ok (.getfield 9, 3) := by decide +kernel
theorem dX12_showing_19 : decode prog_14_method_13_code 19 = .ok (.iconst 3, 1) := by decide +kernel
theorem dX12_showing_20 : decode prog_14_method_13_code 20 = .ok (.iaload, 1) := by decide +kernel
theorem dX12_showing_21 : decode prog_14_method_13_code 21 = .ok (.i2d, 1) := by decide +kernel
theorem dX12_showing_22 : decode prog_14_method_13_code 22 = .ok (.ldc2_w 98, 3) := by decide +kernel
theorem dX12_showing_25 : decode prog_14_method_13_code 25 = .ok (.ddiv, 1) := by decide +kernel
theorem dX12_showing_26 : decode prog_14_method_13_code 26 = .ok (.dsub, 1) := by decide +kernel
theorem dX12_showing_27 : decode prog_14_method_13_code 27 = .ok (.dstore 4, 2) := by decide +kernel
theorem dX12_showing_29 : decode prog_14_method_13_code 29 = .ok (.iconst 0, 1) := by decide +kernel
theorem dX12_showing_30 : decode prog_14_method_13_code 30 = .ok (.istore 6, 2) := by decide +kernel
theorem dX12_showing_32 : decode prog_14_method_13_code 32 = .ok (.iload 6, 2) := by decide +kernel
theorem dX12_showing_34 : decode prog_14_method_13_code 34 = .ok (.iload_n 1, 1) := by decide +kernel
theorem dX12_showing_35 : decode prog_14_method_13_code 35 = .ok (.if_icmp .ge 15, 3) := by decide +kernel
theorem dX12_showing_38 : decode prog_14_method_13_code 38 = .ok (.dload 4, 2) := by decide +kernel
theorem dX12_showing_40 : decode prog_14_method_13_code 40 = .ok (.dload_n 2, 1) := by decide +kernel
theorem dX12_showing_41 : decode prog_14_method_13_code 41 = .ok (.dmul, 1) := by decide +kernel
theorem dX12_showing_42 : decode prog_14_method_13_code 42 = .ok (.dstore 4, 2) := by decide +kernel
theorem dX12_showing_44 : decode prog_14_method_13_code 44 = .ok (.iinc 6 1, 3) := by decide +kernel
theorem dX12_showing_47 : decode prog_14_method_13_code 47 = .ok (.goto (-15), 3) := by decide +kernel
theorem dX12_showing_50 : decode prog_14_method_13_code 50 = .ok (.dload 4, 2) := by decide +kernel
theorem dX12_showing_52 : decode prog_14_method_13_code 52 = .ok (.dreturn, 1) := by decide +kernel
def m_X12_showing_L32 (N : Nat) (M : mM)  : Nat → Int32 → UInt64 → UInt64 → Int32 → Option (UInt64)
  | 0, _, _, _, _ => none
  | n + 1, i1, d2, d4, i6 =>
    if i1 ≤ i6 then (
      some d4) else (
      (oD (FP.dmul d4 d2)).bind fun x1 =>
      (m_X12_showing_L32 N M  n) i1 d2 x1 (i6 + 1))
set_option maxHeartbeats 4000000 in
set_option maxRecDepth 100000 in
theorem t_X12_showing_L32 {X : mX} {M : mM} {L0 : Launch} {res : UInt64} {N : Nat} (C : CX X RX12 "showing" prog_14_method_13_code 7 (some .double)) (E : EX X L0 0 0 0 0 (some (.double res)) M)   : ∀ (n : Nat) (i1 : Int32) (d2 : UInt64) (d4 : UInt64) (i6 : Int32), m_X12_showing_L32 N M  n i1 d2 d4 i6 = some res → EV X 7 32 [(1, .int i1), (2, .double d2), (4, .double d4), (6, .int i6)] [] 0 0 M := by
  intro n
  induction n with
  | zero => intro i1 d2 d4 i6 hf; cases (show (none : Option (UInt64)) = some res from hf)
  | succ n ih =>
    intro i1 d2 d4 i6 hf
    rw [m_X12_showing_L32] at hf
    refine ev_iload C dX12_showing_32 (q := 3) rfl ?_
    refine ev_iload_n C dX12_showing_34 rfl (q := 0) rfl ?_
    refine ev_icmp_ge (tgt := 50) C dX12_showing_35 (by decide) (fun hc => ?_) (fun hc => ?_)
    · have hf := oit hf hc
      refine ev_dload C dX12_showing_50 (q := 2) rfl ?_
      cases hf
      exact ev_dret C E (Nat.le_refl 0) (Nat.le_refl 0) dX12_showing_52
    · have hf := oie hf hc
      refine ev_dload C dX12_showing_38 (q := 2) rfl ?_
      refine ev_dload_n C dX12_showing_40 rfl (q := 1) rfl ?_
      obtain ⟨x1, e2, hf⟩ := obnd hf
      obtain ⟨e2, e2q⟩ := oD_eq e2
      refine ev_dmul C dX12_showing_41 e2 ?_
      rw [← e2q]
      refine ev_dstore (l' := [(4, .double x1), (1, .int i1), (2, .double d2), (6, .int i6)]) C dX12_showing_42 (by decide) rfl ?_
      refine ev_iinc (v := i6 + 1) (l' := [(6, .int (i6 + 1)), (4, .double x1), (1, .int i1), (2, .double d2)]) C dX12_showing_44 (q := 3) rfl rfl (by decide) rfl ?_
      refine ev_goto (tgt := 32) C dX12_showing_47 (by decide) ?_
      refine ev_sub [2, 3, 1, 0] rfl ?_
      exact ih i1 d2 x1 (i6 + 1) hf
def m_X12_showing (N : Nat) (M : mM) (a0 : Nat) (i1 : Int32) (M : mM) : Option (UInt64) :=
  (fR M a0 12 0).bind fun x1 =>
  (aI 0 M x1 2).bind fun x3 =>
  (oD (FP.ddiv (FP.i2d x3) 4636737291354636288)).bind fun x5 =>
  (oD (FP.dsub FP.dconst1 x5)).bind fun x7 =>
  (fR M a0 12 0).bind fun x9 =>
  (aI 0 M x9 3).bind fun x11 =>
  (oD (FP.ddiv (FP.i2d x11) 4636737291354636288)).bind fun x13 =>
  (oD (FP.dsub FP.dconst1 x13)).bind fun x15 =>
  m_X12_showing_L32 N M  N i1 x7 x15 0
set_option maxHeartbeats 4000000 in
set_option maxRecDepth 100000 in
theorem t_X12_showing {L0 : Launch} {M : mM} {N : Nat} {a0 : Nat} {i1 : Int32} {res : UInt64} (hf : m_X12_showing N M a0 i1 M = some res) : CT L0 yX12_showing prog_14_method_13_code 7 (some .double) 0 0 0 0 [.ref a0, .int i1] M (some (.double res)) M := by
  refine CT.of (by decide +kernel) (Nat.le_of_ble_eq_true rfl) fun X C E => ?_
  have C : CX X RX12 "showing" prog_14_method_13_code 7 (some .double) := C
  show EV X 7 0 [(0, .ref a0), (1, .int i1)] [] 0 0 M
  unfold m_X12_showing at hf
  refine ev_dconst1 C dX12_showing_0 ?_
  refine ev_aload_n C dX12_showing_1 rfl (q := 0) rfl ?_
  obtain ⟨x1, e2, hf⟩ := obnd hf
  refine ev_get (k := 0) C ok_12 dX12_showing_2 (by decide) kw_1159 (fR_V e2) ?_
  refine ev_iconst (v := 2) C dX12_showing_5 (by decide) ?_
  obtain ⟨x3, e4, hf⟩ := obnd hf
  refine ev_iald C dX12_showing_6 e4 ?_
  refine ev_i2d C dX12_showing_7 ?_
  refine ev_ldc2d (v := 4636737291354636288) C dX12_showing_8 kw_1297 ?_
  obtain ⟨x5, e6, hf⟩ := obnd hf
  obtain ⟨e6, e6q⟩ := oD_eq e6
  refine ev_ddiv C dX12_showing_11 e6 ?_
  rw [← e6q]
  obtain ⟨x7, e8, hf⟩ := obnd hf
  obtain ⟨e8, e8q⟩ := oD_eq e8
  refine ev_dsub C dX12_showing_12 e8 ?_
  rw [← e8q]
  refine ev_dstore_n (l' := [(2, .double x7), (0, .ref a0), (1, .int i1)]) C dX12_showing_13 rfl (by decide) rfl ?_
  refine ev_dconst1 C dX12_showing_14 ?_
  refine ev_aload_n C dX12_showing_15 rfl (q := 1) rfl ?_
  obtain ⟨x9, e10, hf⟩ := obnd hf
  refine ev_get (k := 0) C ok_12 dX12_showing_16 (by decide) kw_1159 (fR_V e10) ?_
  refine ev_iconst (v := 3) C dX12_showing_19 (by decide) ?_
  obtain ⟨x11, e12, hf⟩ := obnd hf
  refine ev_iald C dX12_showing_20 e12 ?_
  refine ev_i2d C dX12_showing_21 ?_
  refine ev_ldc2d (v := 4636737291354636288) C dX12_showing_22 kw_1297 ?_
  obtain ⟨x13, e14, hf⟩ := obnd hf
  obtain ⟨e14, e14q⟩ := oD_eq e14
  refine ev_ddiv C dX12_showing_25 e14 ?_
  rw [← e14q]
  obtain ⟨x15, e16, hf⟩ := obnd hf
  obtain ⟨e16, e16q⟩ := oD_eq e16
  refine ev_dsub C dX12_showing_26 e16 ?_
  rw [← e16q]
  refine ev_dstore (l' := [(4, .double x15), (2, .double x7), (0, .ref a0), (1, .int i1)]) C dX12_showing_27 (by decide) rfl ?_
  refine ev_iconst (v := 0) C dX12_showing_29 (by decide) ?_
  refine ev_istore (l' := [(6, .int 0), (4, .double x15), (2, .double x7), (0, .ref a0), (1, .int i1)]) C dX12_showing_30 (by decide) rfl ?_
  refine ev_sub [4, 2, 1, 0] rfl ?_
  exact t_X12_showing_L32 C E   N i1 x7 x15 0 hf
/-! FareLimits$Plan hasFare(I)Z -/
theorem dX5_hasFare_0 : decode prog_7_method_3_code 0 = .ok (.iload_n 1, 1) := by decide +kernel
theorem dX5_hasFare_1 : decode prog_7_method_3_code 1 = .ok (.ifCond .lt 15, 3) := by decide +kernel
theorem dX5_hasFare_4 : decode prog_7_method_3_code 4 = .ok (.iload_n 1, 1) := by decide +kernel
theorem dX5_hasFare_5 : decode prog_7_method_3_code 5 = .ok (.aload_n 0, 1) := by decide +kernel
theorem dX5_hasFare_6 : decode prog_7_method_3_code 6 = .ok (.getfield 37, 3) := by decide +kernel
theorem dX5_hasFare_9 : decode prog_7_method_3_code 9 = .ok (.if_icmp .ge 7, 3) := by decide +kernel
theorem dX5_hasFare_12 : decode prog_7_method_3_code 12 = .ok (.iconst 1, 1) := by decide +kernel
theorem dX5_hasFare_13 : decode prog_7_method_3_code 13 = .ok (.goto 4, 3) := by decide +kernel
theorem dX5_hasFare_16 : decode prog_7_method_3_code 16 = .ok (.iconst 0, 1) := by decide +kernel
theorem dX5_hasFare_17 : decode prog_7_method_3_code 17 = .ok (.ireturn, 1) := by decide +kernel
def m_X5_hasFare (M : mM) (a0 : Nat) (i1 : Int32) (M : mM) : Option (Int32) :=
  if i1 < 0 then (
    some 0) else (
    (fI M a0 5 1).bind fun x1 =>
    if x1 ≤ i1 then (
      some 0) else (
      some 1))
set_option maxHeartbeats 4000000 in
set_option maxRecDepth 100000 in
theorem t_X5_hasFare {L0 : Launch} {M : mM} {a0 : Nat} {i1 : Int32} {res : Int32} (hf : m_X5_hasFare M a0 i1 M = some res) : CT L0 yX5_hasFare prog_7_method_3_code 2 (some .boolean) 0 0 0 0 [.ref a0, .int i1] M (some (.int res)) M := by
  refine CT.of (by decide +kernel) (Nat.le_of_ble_eq_true rfl) fun X C E => ?_
  have C : CX X RX5 "hasFare" prog_7_method_3_code 2 (some .boolean) := C
  show EV X 2 0 [(0, .ref a0), (1, .int i1)] [] 0 0 M
  unfold m_X5_hasFare at hf
  refine ev_iload_n C dX5_hasFare_0 rfl (q := 1) rfl ?_
  refine ev_if_lt (tgt := 16) C dX5_hasFare_1 (by decide) (fun hc => ?_) (fun hc => ?_)
  · have hf := oit hf hc
    refine ev_iconst (v := 0) C dX5_hasFare_16 (by decide) ?_
    cases hf
    exact ev_zret C (by decide) E (Nat.le_refl 0) (Nat.le_refl 0) dX5_hasFare_17
  · have hf := oie hf hc
    refine ev_iload_n C dX5_hasFare_4 rfl (q := 1) rfl ?_
    refine ev_aload_n C dX5_hasFare_5 rfl (q := 0) rfl ?_
    obtain ⟨x1, e2, hf⟩ := obnd hf
    refine ev_get (k := 1) C ok_5 dX5_hasFare_6 (by decide) kw_182 (fI_V e2) ?_
    refine ev_icmp_ge (tgt := 16) C dX5_hasFare_9 (by decide) (fun hc => ?_) (fun hc => ?_)
    · have hf := oit hf hc
      refine ev_iconst (v := 0) C dX5_hasFare_16 (by decide) ?_
      cases hf
      exact ev_zret C (by decide) E (Nat.le_refl 0) (Nat.le_refl 0) dX5_hasFare_17
    · have hf := oie hf hc
      refine ev_iconst (v := 1) C dX5_hasFare_12 (by decide) ?_
      refine ev_goto (tgt := 17) C dX5_hasFare_13 (by decide) ?_
      cases hf
      exact ev_zret C (by decide) E (Nat.le_refl 0) (Nat.le_refl 0) dX5_hasFare_17
/-! java/util/Arrays fill([II)V -/
theorem dJ7_fill_53178_0 : decode prog_28_method_103_code 0 = .ok (.iconst 0, 1) := by decide +kernel
theorem dJ7_fill_53178_1 : decode prog_28_method_103_code 1 = .ok (.istore_n 2, 1) := by decide +kernel
theorem dJ7_fill_53178_2 : decode prog_28_method_103_code 2 = .ok (.aload_n 0, 1) := by decide +kernel
theorem dJ7_fill_53178_3 : decode prog_28_method_103_code 3 = .ok (.arraylength, 1) := by decide +kernel
theorem dJ7_fill_53178_4 : decode prog_28_method_103_code 4 = .ok (.istore_n 3, 1) := by decide +kernel
theorem dJ7_fill_53178_5 : decode prog_28_method_103_code 5 = .ok (.iload_n 2, 1) := by decide +kernel
theorem dJ7_fill_53178_6 : decode prog_28_method_103_code 6 = .ok (.iload_n 3, 1) := by decide +kernel
theorem dJ7_fill_53178_7 : decode prog_28_method_103_code 7 = .ok (.if_icmp .ge 13, 3) := by decide +kernel
theorem dJ7_fill_53178_10 : decode prog_28_method_103_code 10 = .ok (.aload_n 0, 1) := by decide +kernel
theorem dJ7_fill_53178_11 : decode prog_28_method_103_code 11 = .ok (.iload_n 2, 1) := by decide +kernel
theorem dJ7_fill_53178_12 : decode prog_28_method_103_code 12 = .ok (.iload_n 1, 1) := by decide +kernel
theorem dJ7_fill_53178_13 : decode prog_28_method_103_code 13 = .ok (.iastore, 1) := by decide +kernel
theorem dJ7_fill_53178_14 : decode prog_28_method_103_code 14 = .ok (.iinc 2 1, 3) := by decide +kernel
theorem dJ7_fill_53178_17 : decode prog_28_method_103_code 17 = .ok (.goto (-12), 3) := by decide +kernel
theorem dJ7_fill_53178_20 : decode prog_28_method_103_code 20 = .ok (.return_, 1) := by decide +kernel
def m_J7_fill_53178_L5 (N : Nat)  : Nat → Nat → Int32 → Int32 → Int32 → mM → Option (mM)
  | 0, _, _, _, _, _ => none
  | n + 1, a0, i1, i2, i3, M =>
    if i3 ≤ i2 then (
      some M) else (
      (uI 0 .int M a0 i2 i1).bind fun M1 =>
      (m_J7_fill_53178_L5 N  n) a0 i1 (i2 + 1) i3 M1)
set_option maxHeartbeats 4000000 in
set_option maxRecDepth 100000 in
theorem t_J7_fill_53178_L5 {X : mX} {L0 : Launch} {res : mM} {N : Nat} (C : CX X RJ7 "fill" prog_28_method_103_code 4 none) (E : EX X L0 0 0 0 0 none res)   : ∀ (n : Nat) (a0 : Nat) (i1 : Int32) (i2 : Int32) (i3 : Int32) (M : mM), m_J7_fill_53178_L5 N  n a0 i1 i2 i3 M = some res → EV X 4 5 [(0, .ref a0), (1, .int i1), (2, .int i2), (3, .int i3)] [] 0 0 M := by
  intro n
  induction n with
  | zero => intro a0 i1 i2 i3 M hf; cases (show (none : Option (mM)) = some res from hf)
  | succ n ih =>
    intro a0 i1 i2 i3 M hf
    rw [m_J7_fill_53178_L5] at hf
    refine ev_iload_n C dJ7_fill_53178_5 rfl (q := 2) rfl ?_
    refine ev_iload_n C dJ7_fill_53178_6 rfl (q := 3) rfl ?_
    refine ev_icmp_ge (tgt := 20) C dJ7_fill_53178_7 (by decide) (fun hc => ?_) (fun hc => ?_)
    · have hf := oit hf hc
      cases hf
      exact ev_vret C E (Nat.le_refl 0) (Nat.le_refl 0) dJ7_fill_53178_20
    · have hf := oie hf hc
      refine ev_aload_n C dJ7_fill_53178_10 rfl (q := 0) rfl ?_
      refine ev_iload_n C dJ7_fill_53178_11 rfl (q := 2) rfl ?_
      refine ev_iload_n C dJ7_fill_53178_12 rfl (q := 1) rfl ?_
      obtain ⟨M1, e2, hf⟩ := obnd hf
      refine ev_iast C dJ7_fill_53178_13 e2 ?_
      refine ev_iinc (v := i2 + 1) (l' := [(2, .int (i2 + 1)), (0, .ref a0), (1, .int i1), (3, .int i3)]) C dJ7_fill_53178_14 (q := 2) rfl rfl (by decide) rfl ?_
      refine ev_goto (tgt := 5) C dJ7_fill_53178_17 (by decide) ?_
      refine ev_sub [1, 2, 0, 3] rfl ?_
      exact ih a0 i1 (i2 + 1) i3 M1 hf
def m_J7_fill_53178 (N : Nat) (a0 : Nat) (i1 : Int32) (M : mM) : Option (mM) :=
  (aN 0 M a0).bind fun x1 =>
  m_J7_fill_53178_L5 N  N a0 i1 0 x1 M
set_option maxHeartbeats 4000000 in
set_option maxRecDepth 100000 in
theorem t_J7_fill_53178 {L0 : Launch} {M : mM} {N : Nat} {a0 : Nat} {i1 : Int32} {res : mM} (hf : m_J7_fill_53178 N a0 i1 M = some res) : CT L0 yJ7_fill_53178 prog_28_method_103_code 4 none 0 0 0 0 [.ref a0, .int i1] M none res := by
  refine CT.of (by decide +kernel) (Nat.le_of_ble_eq_true rfl) fun X C E => ?_
  have C : CX X RJ7 "fill" prog_28_method_103_code 4 none := C
  show EV X 4 0 [(0, .ref a0), (1, .int i1)] [] 0 0 M
  unfold m_J7_fill_53178 at hf
  refine ev_iconst (v := 0) C dJ7_fill_53178_0 (by decide) ?_
  refine ev_istore_n (l' := [(2, .int 0), (0, .ref a0), (1, .int i1)]) C dJ7_fill_53178_1 rfl (by decide) rfl ?_
  refine ev_aload_n C dJ7_fill_53178_2 rfl (q := 1) rfl ?_
  obtain ⟨x1, e2, hf⟩ := obnd hf
  refine ev_alen (t := 0) C dJ7_fill_53178_3 rfl e2 ?_
  refine ev_istore_n (l' := [(3, .int x1), (2, .int 0), (0, .ref a0), (1, .int i1)]) C dJ7_fill_53178_4 rfl (by decide) rfl ?_
  refine ev_sub [2, 3, 1, 0] rfl ?_
  exact t_J7_fill_53178_L5 C E   N a0 i1 0 x1 M hf
/-! FareLimits$Fare begin(LFareLimits$Kind;I)V -/
theorem dX2_begin_0 : decode prog_4_method_2_code 0 = .ok (.aload_n 0, 1) := by decide +kernel
theorem dX2_begin_1 : decode prog_4_method_2_code 1 = .ok (.aload_n 1, 1) := by decide +kernel
theorem dX2_begin_2 : decode prog_4_method_2_code 2 = .ok (.putfield 15, 3) := by decide +kernel
theorem dX2_begin_5 : decode prog_4_method_2_code 5 = .ok (.aload_n 0, 1) := by decide +kernel
theorem dX2_begin_6 : decode prog_4_method_2_code 6 = .ok (.iload_n 2, 1) := by decide +kernel
theorem dX2_begin_7 : decode prog_4_method_2_code 7 = .ok (.putfield 24, 3) := by decide +kernel
theorem dX2_begin_10 : decode prog_4_method_2_code 10 = .ok (.aload_n 0, 1) := by decide +kernel
theorem dX2_begin_11 : decode prog_4_method_2_code 11 = .ok (.bipush 30, 2) := by decide +kernel
theorem dX2_begin_13 : decode prog_4_method_2_code 13 = .ok (.putfield 28, 3) := by decide +kernel
theorem dX2_begin_16 : decode prog_4_method_2_code 16 = .ok (.aload_n 0, 1) := by decide +kernel
theorem dX2_begin_17 : decode prog_4_method_2_code 17 = .ok (.getfield 20, 3) := by decide +kernel
theorem dX2_begin_20 : decode prog_4_method_2_code 20 = .ok (.iconst 0, 1) := by decide +kernel
theorem dX2_begin_21 : decode prog_4_method_2_code 21 = .ok (.invokestatic 31, 3) := by decide +kernel
theorem dX2_begin_24 : decode prog_4_method_2_code 24 = .ok (.return_, 1) := by decide +kernel
def m_X2_begin (N : Nat) (a0 : Nat) (a1 : Nat) (i2 : Int32) (M : mM) : Option (mM) :=
  (sV M a0 3 0 (.ref a1)).bind fun M1 =>
  (sV M1 a0 3 1 (.int i2)).bind fun M3 =>
  (sV M3 a0 3 2 (.int 30)).bind fun M5 =>
  (fR M5 a0 3 3).bind fun x7 =>
  (m_J7_fill_53178 N x7 0 M5).bind fun x9 =>
  some x9
set_option maxHeartbeats 4000000 in
set_option maxRecDepth 100000 in
theorem t_X2_begin {L0 : Launch} {M : mM} {N : Nat} {a0 : Nat} {a1 : Nat} {i2 : Int32} {res : mM} (hf : m_X2_begin N a0 a1 i2 M = some res) : CT L0 yX2_begin prog_4_method_2_code 3 none 1 23 0 0 [.ref a0, .ref a1, .int i2] M none res := by
  refine CT.of (by decide +kernel) (Nat.le_of_ble_eq_true rfl) fun X C E => ?_
  have C : CX X RX2 "begin" prog_4_method_2_code 3 none := C
  show EV X 3 0 [(0, .ref a0), (1, .ref a1), (2, .int i2)] [] 0 0 M
  unfold m_X2_begin at hf
  refine ev_aload_n C dX2_begin_0 rfl (q := 0) rfl ?_
  refine ev_aload_n C dX2_begin_1 rfl (q := 1) rfl ?_
  obtain ⟨M1, e2, hf⟩ := obnd hf
  refine ev_put (k := 0) C ok_3 dX2_begin_2 (by decide) kw_148 rfl ⟨rfl, rfl⟩ e2 ?_
  refine ev_aload_n C dX2_begin_5 rfl (q := 0) rfl ?_
  refine ev_iload_n C dX2_begin_6 rfl (q := 2) rfl ?_
  obtain ⟨M3, e4, hf⟩ := obnd hf
  refine ev_put (k := 1) C ok_3 dX2_begin_7 (by decide) kw_151 rfl ⟨rfl, rfl⟩ e4 ?_
  refine ev_aload_n C dX2_begin_10 rfl (q := 0) rfl ?_
  refine ev_bipush (v := 30) C dX2_begin_11 (by decide) ?_
  obtain ⟨M5, e6, hf⟩ := obnd hf
  refine ev_put (k := 2) C ok_3 dX2_begin_13 (by decide) kw_157 rfl ⟨rfl, rfl⟩ e6 ?_
  refine ev_aload_n C dX2_begin_16 rfl (q := 0) rfl ?_
  obtain ⟨x7, e8, hf⟩ := obnd hf
  refine ev_get (k := 3) C ok_3 dX2_begin_17 (by decide) kw_160 (fR_V e8) ?_
  refine ev_iconst (v := 0) C dX2_begin_20 (by decide) ?_
  obtain ⟨x9, e10, hf⟩ := obnd hf
  refine ev_callS0 (As := [.ref x7, .int 0]) (st := []) C (t_J7_fill_53178 e10) hd_J7_fill_53178 rfl kw_442 kw_390 kw_86 kw_391 (mRoom.of E (Nat.le_of_ble_eq_true rfl) (Nat.le_of_ble_eq_true rfl) (Nat.le_refl 0) (Nat.le_refl 0)) (Nat.le_of_ble_eq_true rfl) dX2_begin_21 ?_
  cases hf
  exact ev_vret C E (Nat.le_refl 0) (Nat.le_refl 0) dX2_begin_24
/-! FareLimits$Worths forget()V -/
theorem dX10_forget_0 : decode prog_12_method_2_code 0 = .ok (.aload_n 0, 1) := by decide +kernel
theorem dX10_forget_1 : decode prog_12_method_2_code 1 = .ok (.iconst 0, 1) := by decide +kernel
theorem dX10_forget_2 : decode prog_12_method_2_code 2 = .ok (.putfield 24, 3) := by decide +kernel
theorem dX10_forget_5 : decode prog_12_method_2_code 5 = .ok (.return_, 1) := by decide +kernel
def m_X10_forget (a0 : Nat) (M : mM) : Option (mM) :=
  (sV M a0 10 3 (.int 0)).bind fun M1 =>
  some M1
set_option maxHeartbeats 4000000 in
set_option maxRecDepth 100000 in
theorem t_X10_forget {L0 : Launch} {M : mM} {a0 : Nat} {res : mM} (hf : m_X10_forget a0 M = some res) : CT L0 yX10_forget prog_12_method_2_code 1 none 0 0 0 0 [.ref a0] M none res := by
  refine CT.of (by decide +kernel) (Nat.le_of_ble_eq_true rfl) fun X C E => ?_
  have C : CX X RX10 "forget" prog_12_method_2_code 1 none := C
  show EV X 1 0 [(0, .ref a0)] [] 0 0 M
  unfold m_X10_forget at hf
  refine ev_aload_n C dX10_forget_0 rfl (q := 0) rfl ?_
  refine ev_iconst (v := 0) C dX10_forget_1 (by decide) ?_
  obtain ⟨M1, e2, hf⟩ := obnd hf
  refine ev_put (k := 3) C ok_10 dX10_forget_2 (by decide) kw_219 rfl ⟨rfl, rfl⟩ e2 ?_
  cases hf
  exact ev_vret C E (Nat.le_refl 0) (Nat.le_refl 0) dX10_forget_5
/-! FareLimits fare(II)I -/
theorem dX11_fare_0 : decode prog_1_method_2_code 0 = .ok (.iload_n 1, 1) := by decide +kernel
theorem dX11_fare_1 : decode prog_1_method_2_code 1 = .ok (.getstatic 87, 3) := by decide +kernel
theorem dX11_fare_4 : decode prog_1_method_2_code 4 = .ok (.arraylength, 1) := by decide +kernel
theorem dX11_fare_5 : decode prog_1_method_2_code 5 = .ok (.iconst 1, 1) := by decide +kernel
theorem dX11_fare_6 : decode prog_1_method_2_code 6 = .ok (.isub, 1) := by decide +kernel
theorem dX11_fare_7 : decode prog_1_method_2_code 7 = .ok (.invokestatic 91, 3) := by decide +kernel
theorem dX11_fare_10 : decode prog_1_method_2_code 10 = .ok (.ifCond .ne 5, 3) := by decide +kernel
theorem dX11_fare_13 : decode prog_1_method_2_code 13 = .ok (.iconst (-1), 1) := by decide +kernel
theorem dX11_fare_14 : decode prog_1_method_2_code 14 = .ok (.ireturn, 1) := by decide +kernel
theorem dX11_fare_15 : decode prog_1_method_2_code 15 = .ok (.iload_n 2, 1) := by decide +kernel
theorem dX11_fare_16 : decode prog_1_method_2_code 16 = .ok (.iconst 1, 1) := by decide +kernel
theorem dX11_fare_17 : decode prog_1_method_2_code 17 = .ok (.if_icmp .lt 10, 3) := by decide +kernel
theorem dX11_fare_20 : decode prog_1_method_2_code 20 = .ok (.iload_n 2, 1) := by decide +kernel
theorem dX11_fare_21 : decode prog_1_method_2_code 21 = .ok (.sipush 9999, 3) := by decide +kernel
theorem dX11_fare_24 : decode prog_1_method_2_code 24 = .ok (.if_icmp .le 6, 3) := by decide +kernel
theorem dX11_fare_27 : decode prog_1_method_2_code 27 = .ok (.bipush (-2), 2) := by decide +kernel
theorem dX11_fare_29 : decode prog_1_method_2_code 29 = .ok (.ireturn, 1) := by decide +kernel
theorem dX11_fare_30 : decode prog_1_method_2_code 30 = .ok (.aload_n 0, 1) := by decide +kernel
theorem dX11_fare_31 : decode prog_1_method_2_code 31 = .ok (.getfield 12, 3) := by decide +kernel
theorem dX11_fare_34 : decode prog_1_method_2_code 34 = .ok (.getfield 95, 3) := by decide +kernel
theorem dX11_fare_37 : decode prog_1_method_2_code 37 = .ok (.bipush 6, 2) := by decide +kernel
theorem dX11_fare_39 : decode prog_1_method_2_code 39 = .ok (.if_icmp .lt 6, 3) := by decide +kernel
theorem dX11_fare_42 : decode prog_1_method_2_code 42 = .ok (.bipush (-4), 2) := by decide +kernel
theorem dX11_fare_44 : decode prog_1_method_2_code 44 = .ok (.ireturn, 1) := by decide +kernel
theorem dX11_fare_45 : decode prog_1_method_2_code 45 = .ok (.aload_n 0, 1) := by decide +kernel
theorem dX11_fare_46 : decode prog_1_method_2_code 46 = .ok (.getfield 12, 3) := by decide +kernel
theorem dX11_fare_49 : decode prog_1_method_2_code 49 = .ok (.getfield 95, 3) := by decide +kernel
theorem dX11_fare_52 : decode prog_1_method_2_code 52 = .ok (.istore_n 3, 1) := by decide +kernel
theorem dX11_fare_53 : decode prog_1_method_2_code 53 = .ok (.aload_n 0, 1) := by decide +kernel
theorem dX11_fare_54 : decode prog_1_method_2_code 54 = .ok (.getfield 12, 3) := by decide +kernel
theorem dX11_fare_57 : decode prog_1_method_2_code 57 = .ok (.getfield 99, 3) := by decide +kernel
theorem dX11_fare_60 : decode prog_1_method_2_code 60 = .ok (.iload_n 3, 1) := by decide +kernel
theorem dX11_fare_61 : decode prog_1_method_2_code 61 = .ok (.aaload, 1) := by decide +kernel
theorem dX11_fare_62 : decode prog_1_method_2_code 62 = .ok (.getstatic 87, 3) := by decide +kernel
theorem dX11_fare_65 : decode prog_1_method_2_code 65 = .ok (.iload_n 1, 1) := by decide +kernel
theorem dX11_fare_66 : decode prog_1_method_2_code 66 = .ok (.aaload, 1) := by decide +kernel
theorem dX11_fare_67 : decode prog_1_method_2_code 67 = .ok (.iload_n 2, 1) := by decide +kernel
theorem dX11_fare_68 : decode prog_1_method_2_code 68 = .ok (.invokevirtual 103, 3) := by decide +kernel
theorem dX11_fare_71 : decode prog_1_method_2_code 71 = .ok (.aload_n 0, 1) := by decide +kernel
theorem dX11_fare_72 : decode prog_1_method_2_code 72 = .ok (.getfield 12, 3) := by decide +kernel
theorem dX11_fare_75 : decode prog_1_method_2_code 75 = .ok (.dup, 1) := by decide +kernel
theorem dX11_fare_76 : decode prog_1_method_2_code 76 = .ok (.getfield 95, 3) := by decide +kernel
theorem dX11_fare_79 : decode prog_1_method_2_code 79 = .ok (.iconst 1, 1) := by decide +kernel
theorem dX11_fare_80 : decode prog_1_method_2_code 80 = .ok (.iadd, 1) := by decide +kernel
theorem dX11_fare_81 : decode prog_1_method_2_code 81 = .ok (.putfield 95, 3) := by decide +kernel
theorem dX11_fare_84 : decode prog_1_method_2_code 84 = .ok (.aload_n 0, 1) := by decide +kernel
theorem dX11_fare_85 : decode prog_1_method_2_code 85 = .ok (.getfield 24, 3) := by decide +kernel
theorem dX11_fare_88 : decode prog_1_method_2_code 88 = .ok (.invokevirtual 109, 3) := by decide +kernel
theorem dX11_fare_91 : decode prog_1_method_2_code 91 = .ok (.iload_n 3, 1) := by decide +kernel
theorem dX11_fare_92 : decode prog_1_method_2_code 92 = .ok (.ireturn, 1) := by decide +kernel
def m_X11_fare (N : Nat) (a0 : Nat) (i1 : Int32) (i2 : Int32) (M : mM) : Option (Int32 × mM) :=
  (m_X11_within i1 (4 - 1)).bind fun x1 =>
  if x1 = 0 then (
    some ((-1), M)) else (
    if i2 < 1 then (
      some ((-2), M)) else (
      if i2 ≤ 9999 then (
        (fR M a0 11 0).bind fun x3 =>
        (fI M x3 5 1).bind fun x5 =>
        if x5 < 6 then (
          (fR M a0 11 0).bind fun x7 =>
          (fI M x7 5 1).bind fun x9 =>
          (fR M a0 11 0).bind fun x11 =>
          (fR M x11 5 0).bind fun x13 =>
          (aR 5 M x13 x9).bind fun x15 =>
          (zKinds i1).bind fun x17 =>
          (oO M x15 3).bind fun _ =>
          (m_X2_begin N x15 x17 i2 M).bind fun x21 =>
          (fR x21 a0 11 0).bind fun x23 =>
          (fI x21 x23 5 1).bind fun x25 =>
          (sV x21 x23 5 1 (.int (x25 + 1))).bind fun M27 =>
          (fR M27 a0 11 3).bind fun x29 =>
          (oO M27 x29 10).bind fun _ =>
          (m_X10_forget x29 M27).bind fun x33 =>
          some (x9, x33)) else (
          some ((-4), M))) else (
        some ((-2), M))))
set_option maxHeartbeats 4000000 in
set_option maxRecDepth 100000 in
theorem t_X11_fare {L0 : Launch} {M : mM} {N : Nat} {a0 : Nat} {i1 : Int32} {i2 : Int32} {res : Int32 × mM} (hf : m_X11_fare N a0 i1 i2 M = some res) : CT L0 yX11_fare prog_1_method_2_code 4 (some .int) 2 45 0 0 [.ref a0, .int i1, .int i2] M (some (.int res.1)) res.2 := by
  refine CT.of (by decide +kernel) (Nat.le_of_ble_eq_true rfl) fun X C E => ?_
  have C : CX X RX11 "fare" prog_1_method_2_code 4 (some .int) := C
  show EV X 4 0 [(0, .ref a0), (1, .int i1), (2, .int i2)] [] 0 0 M
  unfold m_X11_fare at hf
  refine ev_iload_n C dX11_fare_0 rfl (q := 1) rfl ?_
  refine ev_sKinds C kw_433 dX11_fare_1 ?_
  refine ev_zlenK C dX11_fare_4 ?_
  refine ev_iconst (v := 1) C dX11_fare_5 (by decide) ?_
  refine ev_isub C dX11_fare_6 ?_
  obtain ⟨x1, e2, hf⟩ := obnd hf
  refine ev_callS0 (As := [.int i1, .int (4 - 1)]) (st := []) C (t_X11_within e2) hd_X11_within rfl kw_435 kw_436 kw_70 kw_437 (mRoom.of E (Nat.le_of_ble_eq_true rfl) (Nat.le_of_ble_eq_true rfl) (Nat.le_refl 0) (Nat.le_refl 0)) (Nat.le_of_ble_eq_true rfl) dX11_fare_7 ?_
  refine ev_if_ne (tgt := 15) C dX11_fare_10 (by decide) (fun hc => ?_) (fun hc => ?_)
  · have hf := oie hf hc
    refine ev_iload_n C dX11_fare_15 rfl (q := 2) rfl ?_
    refine ev_iconst (v := 1) C dX11_fare_16 (by decide) ?_
    refine ev_icmp_lt (tgt := 27) C dX11_fare_17 (by decide) (fun hc => ?_) (fun hc => ?_)
    · have hf := oit hf hc
      refine ev_bipush (v := (-2)) C dX11_fare_27 (by decide) ?_
      cases hf
      exact ev_iret C E (Nat.le_refl 0) (Nat.le_refl 0) dX11_fare_29
    · have hf := oie hf hc
      refine ev_iload_n C dX11_fare_20 rfl (q := 2) rfl ?_
      refine ev_sipush (v := 9999) C dX11_fare_21 (by decide) ?_
      refine ev_icmp_le (tgt := 30) C dX11_fare_24 (by decide) (fun hc => ?_) (fun hc => ?_)
      · have hf := oit hf hc
        refine ev_aload_n C dX11_fare_30 rfl (q := 0) rfl ?_
        obtain ⟨x3, e4, hf⟩ := obnd hf
        refine ev_get (k := 0) C ok_11 dX11_fare_31 (by decide) kw_392 (fR_V e4) ?_
        obtain ⟨x5, e6, hf⟩ := obnd hf
        refine ev_get (k := 1) C ok_5 dX11_fare_34 (by decide) kw_183 (fI_V e6) ?_
        refine ev_bipush (v := 6) C dX11_fare_37 (by decide) ?_
        refine ev_icmp_lt (tgt := 45) C dX11_fare_39 (by decide) (fun hc => ?_) (fun hc => ?_)
        · have hf := oit hf hc
          refine ev_aload_n C dX11_fare_45 rfl (q := 0) rfl ?_
          obtain ⟨x7, e8, hf⟩ := obnd hf
          refine ev_get (k := 0) C ok_11 dX11_fare_46 (by decide) kw_392 (fR_V e8) ?_
          obtain ⟨x9, e10, hf⟩ := obnd hf
          refine ev_get (k := 1) C ok_5 dX11_fare_49 (by decide) kw_183 (fI_V e10) ?_
          refine ev_istore_n (l' := [(3, .int x9), (0, .ref a0), (1, .int i1), (2, .int i2)]) C dX11_fare_52 rfl (by decide) rfl ?_
          refine ev_aload_n C dX11_fare_53 rfl (q := 1) rfl ?_
          obtain ⟨x11, e12, hf⟩ := obnd hf
          refine ev_get (k := 0) C ok_11 dX11_fare_54 (by decide) kw_392 (fR_V e12) ?_
          obtain ⟨x13, e14, hf⟩ := obnd hf
          refine ev_get (k := 0) C ok_5 dX11_fare_57 (by decide) kw_177 (fR_V e14) ?_
          refine ev_iload_n C dX11_fare_60 rfl (q := 0) rfl ?_
          obtain ⟨x15, e16, hf⟩ := obnd hf
          refine ev_aldr C (t := 5) rfl rfl dX11_fare_61 e16 ?_
          refine ev_sKinds C kw_433 dX11_fare_62 ?_
          refine ev_iload_n C dX11_fare_65 rfl (q := 2) rfl ?_
          obtain ⟨x17, e18, hf⟩ := obnd hf
          refine ev_zKinds C dX11_fare_66 e18 ?_
          refine ev_iload_n C dX11_fare_67 rfl (q := 3) rfl ?_
          obtain ⟨_, e19, hf⟩ := obnd hf
          obtain ⟨fs20, e19⟩ := oO_eq e19
          obtain ⟨x21, e22, hf⟩ := obnd hf
          refine ev_callV0 (As := [.ref x17, .int i2]) (st := []) C rfl e19 (t_X2_begin e22) rfl hd_X2_begin rfl kw_438 kw_439 kw_73 kw_440 kw_441 (mRoom.of E (Nat.le_of_ble_eq_true rfl) (Nat.le_of_ble_eq_true rfl) (Nat.le_refl 0) (Nat.le_refl 0)) (Nat.le_of_ble_eq_true rfl) dX11_fare_68 ?_
          refine ev_aload_n C dX11_fare_71 rfl (q := 1) rfl ?_
          obtain ⟨x23, e24, hf⟩ := obnd hf
          refine ev_get (k := 0) C ok_11 dX11_fare_72 (by decide) kw_392 (fR_V e24) ?_
          refine ev_dup C dX11_fare_75 rfl ?_
          obtain ⟨x25, e26, hf⟩ := obnd hf
          refine ev_get (k := 1) C ok_5 dX11_fare_76 (by decide) kw_183 (fI_V e26) ?_
          refine ev_iconst (v := 1) C dX11_fare_79 (by decide) ?_
          refine ev_iadd C dX11_fare_80 ?_
          obtain ⟨M27, e28, hf⟩ := obnd hf
          refine ev_put (k := 1) C ok_5 dX11_fare_81 (by decide) kw_183 rfl ⟨rfl, rfl⟩ e28 ?_
          refine ev_aload_n C dX11_fare_84 rfl (q := 1) rfl ?_
          obtain ⟨x29, e30, hf⟩ := obnd hf
          refine ev_get (k := 3) C ok_11 dX11_fare_85 (by decide) kw_395 (fR_V e30) ?_
          obtain ⟨_, e31, hf⟩ := obnd hf
          obtain ⟨fs32, e31⟩ := oO_eq e31
          obtain ⟨x33, e34, hf⟩ := obnd hf
          refine ev_callV0 (As := []) (st := []) C rfl e31 (t_X10_forget e34) rfl hd_X10_forget rfl kw_443 kw_444 kw_76 kw_445 kw_446 (mRoom.of E (Nat.le_of_ble_eq_true rfl) (Nat.le_of_ble_eq_true rfl) (Nat.le_refl 0) (Nat.le_refl 0)) (Nat.le_of_ble_eq_true rfl) dX11_fare_88 ?_
          refine ev_iload_n C dX11_fare_91 rfl (q := 0) rfl ?_
          cases hf
          exact ev_iret C E (Nat.le_refl 0) (Nat.le_refl 0) dX11_fare_92
        · have hf := oie hf hc
          refine ev_bipush (v := (-4)) C dX11_fare_42 (by decide) ?_
          cases hf
          exact ev_iret C E (Nat.le_refl 0) (Nat.le_refl 0) dX11_fare_44
      · have hf := oie hf hc
        refine ev_bipush (v := (-2)) C dX11_fare_27 (by decide) ?_
        cases hf
        exact ev_iret C E (Nat.le_refl 0) (Nat.le_refl 0) dX11_fare_29
  · have hf := oit hf hc
    refine ev_iconst (v := (-1)) C dX11_fare_13 (by decide) ?_
    cases hf
    exact ev_iret C E (Nat.le_refl 0) (Nat.le_refl 0) dX11_fare_14
/-! FareLimits$Whole bitsOfDouble(D)J -/
theorem dX9_bitsOfDouble_0 : decode prog_11_method_9_code 0 = .ok (.dload_n 0, 1) := by decide +kernel
theorem dX9_bitsOfDouble_1 : decode prog_11_method_9_code 1 = .ok (.dconst 0, 1) := by decide +kernel
theorem dX9_bitsOfDouble_2 : decode prog_11_method_9_code 2 = .ok (.dcmp .l, 1) := by decide +kernel
theorem dX9_bitsOfDouble_3 : decode prog_11_method_9_code 3 = .ok (.ifCond .ne 5, 3) := by decide +kernel
theorem dX9_bitsOfDouble_6 : decode prog_11_method_9_code 6 = .ok (.lconst 0, 1) := by decide +kernel
theorem dX9_bitsOfDouble_7 : decode prog_11_method_9_code 7 = .ok (.lreturn, 1) := by decide +kernel
theorem dX9_bitsOfDouble_8 : decode prog_11_method_9_code 8 = .ok (.dload_n 0, 1) := by decide +kernel
theorem dX9_bitsOfDouble_9 : decode prog_11_method_9_code 9 = .ok (.dconst 0, 1) := by decide +kernel
theorem dX9_bitsOfDouble_10 : decode prog_11_method_9_code 10 = .ok (.dcmp .g, 1) := by decide +kernel
theorem dX9_bitsOfDouble_11 : decode prog_11_method_9_code 11 = .ok (.ifCond .ge 8, 3) := by decide +kernel
theorem dX9_bitsOfDouble_14 : decode prog_11_method_9_code 14 = .ok (.dload_n 0, 1) := by decide +kernel
theorem dX9_bitsOfDouble_15 : decode prog_11_method_9_code 15 = .ok (.dneg, 1) := by decide +kernel
theorem dX9_bitsOfDouble_16 : decode prog_11_method_9_code 16 = .ok (.goto 4, 3) := by decide +kernel
theorem dX9_bitsOfDouble_19 : decode prog_11_method_9_code 19 = .ok (.dload_n 0, 1) := by decide +kernel
theorem dX9_bitsOfDouble_20 : decode prog_11_method_9_code 20 = .ok (.dstore_n 2, 1) := by decide +kernel
theorem dX9_bitsOfDouble_21 : decode prog_11_method_9_code 21 = .ok (.sipush 1023, 3) := by decide +kernel
theorem dX9_bitsOfDouble_24 : decode prog_11_method_9_code 24 = .ok (.istore 4, 2) := by decide +kernel
theorem dX9_bitsOfDouble_26 : decode prog_11_method_9_code 26 = .ok (.iconst 0, 1) := by decide +kernel
theorem dX9_bitsOfDouble_27 : decode prog_11_method_9_code 27 = .ok (.istore 5, 2) := by decide +kernel
theorem dX9_bitsOfDouble_29 : decode prog_11_method_9_code 29 = .ok (.iload 5, 2) := by decide +kernel
theorem dX9_bitsOfDouble_31 : decode prog_11_method_9_code 31 = .ok (.bipush 32, 2) := by decide +kernel
theorem dX9_bitsOfDouble_33 : decode prog_11_method_9_code 33 = .ok (.if_icmp .ge 24, 3) := by decide +kernel
theorem dX9_bitsOfDouble_36 : decode prog_11_method_9_code 36 = .ok (.dload_n 2, 1) := by decide +kernel
theorem dX9_bitsOfDouble_37 : decode prog_11_method_9_code 37 = .ok (.dconst 1, 1) := by decide +kernel
theorem dX9_bitsOfDouble_38 : decode prog_11_method_9_code 38 = .ok (.dcmp .g, 1) := by decide +kernel
theorem dX9_bitsOfDouble_39 : decode prog_11_method_9_code 39 = .ok (.ifCond .ge 18, 3) := by decide +kernel
theorem dX9_bitsOfDouble_42 : decode prog_11_method_9_code 42 = .ok (.dload_n 2, 1) := by decide +kernel
theorem dX9_bitsOfDouble_43 : decode prog_11_method_9_code 43 = .ok (.ldc2_w 73, 3) := by decide +kernel
theorem dX9_bitsOfDouble_46 : decode prog_11_method_9_code 46 = .ok (.dmul, 1) := by decide +kernel
theorem dX9_bitsOfDouble_47 : decode prog_11_method_9_code 47 = .ok (.dstore_n 2, 1) := by decide +kernel
theorem dX9_bitsOfDouble_48 : decode prog_11_method_9_code 48 = .ok (.iinc 4 (-32), 3) := by decide +kernel
theorem dX9_bitsOfDouble_51 : decode prog_11_method_9_code 51 = .ok (.iinc 5 1, 3) := by decide +kernel
theorem dX9_bitsOfDouble_54 : decode prog_11_method_9_code 54 = .ok (.goto (-25), 3) := by decide +kernel
theorem dX9_bitsOfDouble_57 : decode prog_11_method_9_code 57 = .ok (.iconst 0, 1) := by decide +kernel
theorem dX9_bitsOfDouble_58 : decode prog_11_method_9_code 58 = .ok (.istore 5, 2) := by decide +kernel
theorem dX9_bitsOfDouble_60 : decode prog_11_method_9_code 60 = .ok (.iload 5, 2) := by decide +kernel
theorem dX9_bitsOfDouble_62 : decode prog_11_method_9_code 62 = .ok (.bipush 32, 2) := by decide +kernel
theorem dX9_bitsOfDouble_64 : decode prog_11_method_9_code 64 = .ok (.if_icmp .ge 26, 3) := by decide +kernel
theorem dX9_bitsOfDouble_67 : decode prog_11_method_9_code 67 = .ok (.dload_n 2, 1) := by decide +kernel
theorem dX9_bitsOfDouble_68 : decode prog_11_method_9_code 68 = .ok (.ldc2_w 75, 3) := by decide +kernel
theorem dX9_bitsOfDouble_71 : decode prog_11_method_9_code 71 = .ok (.dcmp .l, 1) := by decide +kernel
theorem dX9_bitsOfDouble_72 : decode prog_11_method_9_code 72 = .ok (.ifCond .lt 18, 3) := by decide +kernel
theorem dX9_bitsOfDouble_75 : decode prog_11_method_9_code 75 = .ok (.dload_n 2, 1) := by decide +kernel
theorem dX9_bitsOfDouble_76 : decode prog_11_method_9_code 76 = .ok (.ldc2_w 75, 3) := by decide +kernel
theorem dX9_bitsOfDouble_79 : decode prog_11_method_9_code 79 = .ok (.ddiv, 1) := by decide +kernel
theorem dX9_bitsOfDouble_80 : decode prog_11_method_9_code 80 = .ok (.dstore_n 2, 1) := by decide +kernel
theorem dX9_bitsOfDouble_81 : decode prog_11_method_9_code 81 = .ok (.iinc 4 1, 3) := by decide +kernel
theorem dX9_bitsOfDouble_84 : decode prog_11_method_9_code 84 = .ok (.iinc 5 1, 3) := by decide +kernel
theorem dX9_bitsOfDouble_87 : decode prog_11_method_9_code 87 = .ok (.goto (-27), 3) := by decide +kernel
theorem dX9_bitsOfDouble_90 : decode prog_11_method_9_code 90 = .ok (.dload_n 2, 1) := by decide +kernel
theorem dX9_bitsOfDouble_91 : decode prog_11_method_9_code 91 = .ok (.dconst 1, 1) := by decide +kernel
theorem dX9_bitsOfDouble_92 : decode prog_11_method_9_code 92 = .ok (.dsub, 1) := by decide +kernel
theorem dX9_bitsOfDouble_93 : decode prog_11_method_9_code 93 = .ok (.ldc2_w 77, 3) := by decide +kernel
theorem dX9_bitsOfDouble_96 : decode prog_11_method_9_code 96 = .ok (.dmul, 1) := by decide +kernel
theorem dX9_bitsOfDouble_97 : decode prog_11_method_9_code 97 = .ok (.d2l, 1) := by decide +kernel
theorem dX9_bitsOfDouble_98 : decode prog_11_method_9_code 98 = .ok (.lstore 5, 2) := by decide +kernel
theorem dX9_bitsOfDouble_100 : decode prog_11_method_9_code 100 = .ok (.dload_n 0, 1) := by decide +kernel
theorem dX9_bitsOfDouble_101 : decode prog_11_method_9_code 101 = .ok (.dconst 0, 1) := by decide +kernel
theorem dX9_bitsOfDouble_102 : decode prog_11_method_9_code 102 = .ok (.dcmp .g, 1) := by decide +kernel
theorem dX9_bitsOfDouble_103 : decode prog_11_method_9_code 103 = .ok (.ifCond .ge 9, 3) := by decide +kernel
theorem dX9_bitsOfDouble_106 : decode prog_11_method_9_code 106 = .ok (.ldc2_w 79, 3) := by decide +kernel
theorem dX9_bitsOfDouble_109 : decode prog_11_method_9_code 109 = .ok (.goto 4, 3) := by decide +kernel
theorem dX9_bitsOfDouble_112 : decode prog_11_method_9_code 112 = .ok (.lconst 0, 1) := by decide +kernel
theorem dX9_bitsOfDouble_113 : decode prog_11_method_9_code 113 = .ok (.iload 4, 2) := by decide +kernel
theorem dX9_bitsOfDouble_115 : decode prog_11_method_9_code 115 = .ok (.i2l, 1) := by decide +kernel
theorem dX9_bitsOfDouble_116 : decode prog_11_method_9_code 116 = .ok (.bipush 52, 2) := by decide +kernel
theorem dX9_bitsOfDouble_118 : decode prog_11_method_9_code 118 = .ok (.lshl, 1) := by decide +kernel
theorem dX9_bitsOfDouble_119 : decode prog_11_method_9_code 119 = .ok (.lor, 1) := by decide +kernel
theorem dX9_bitsOfDouble_120 : decode prog_11_method_9_code 120 = .ok (.lload 5, 2) := by decide +kernel
theorem dX9_bitsOfDouble_122 : decode prog_11_method_9_code 122 = .ok (.lor, 1) := by decide +kernel
theorem dX9_bitsOfDouble_123 : decode prog_11_method_9_code 123 = .ok (.lreturn, 1) := by decide +kernel
def m_X9_bitsOfDouble_J113 (N : Nat)  (i4 : Int32) (j5 : Int64) (sj0 : Int64) : Option (Int64) :=
  some ((sj0 ||| (i4.toInt64 <<< (52.toInt64 &&& 63))) ||| j5)
set_option maxHeartbeats 4000000 in
set_option maxRecDepth 100000 in
theorem t_X9_bitsOfDouble_J113 {X : mX} {M : mM} {L0 : Launch} {res : Int64} {N : Nat} (C : CX X RX9 "bitsOfDouble" prog_11_method_9_code 7 (some .long)) (E : EX X L0 0 0 0 0 (some (.long res)) M)   (i4 : Int32) (j5 : Int64) (sj0 : Int64) (hf : m_X9_bitsOfDouble_J113 N  i4 j5 sj0 = some res) : EV X 7 113 [(4, .int i4), (5, .long j5)] [.long sj0] 0 0 M := by
  unfold m_X9_bitsOfDouble_J113 at hf
  refine ev_iload C dX9_bitsOfDouble_113 (q := 0) rfl ?_
  refine ev_i2l C dX9_bitsOfDouble_115 ?_
  refine ev_bipush (v := 52) C dX9_bitsOfDouble_116 (by decide) ?_
  refine ev_lshl C dX9_bitsOfDouble_118 ?_
  refine ev_lor C dX9_bitsOfDouble_119 ?_
  refine ev_lload C dX9_bitsOfDouble_120 (q := 1) rfl ?_
  refine ev_lor C dX9_bitsOfDouble_122 ?_
  cases hf
  exact ev_lret C E (Nat.le_refl 0) (Nat.le_refl 0) dX9_bitsOfDouble_123
def m_X9_bitsOfDouble_J90 (N : Nat)  (d0 : UInt64) (d2 : UInt64) (i4 : Int32) : Option (Int64) :=
  (oD (FP.dsub d2 FP.dconst1)).bind fun x1 =>
  (oD (FP.dmul x1 4841369599423283200)).bind fun x3 =>
  if 0 ≤ (Op.cmpValue (FP.dcmp d0 FP.dconst0) CmpOp.g) then (
    m_X9_bitsOfDouble_J113 N  i4 (FP.d2l x3) 0) else (
    m_X9_bitsOfDouble_J113 N  i4 (FP.d2l x3) (-9223372036854775808))
set_option maxHeartbeats 4000000 in
set_option maxRecDepth 100000 in
theorem t_X9_bitsOfDouble_J90 {X : mX} {M : mM} {L0 : Launch} {res : Int64} {N : Nat} (C : CX X RX9 "bitsOfDouble" prog_11_method_9_code 7 (some .long)) (E : EX X L0 0 0 0 0 (some (.long res)) M)   (d0 : UInt64) (d2 : UInt64) (i4 : Int32) (hf : m_X9_bitsOfDouble_J90 N  d0 d2 i4 = some res) : EV X 7 90 [(0, .double d0), (2, .double d2), (4, .int i4)] [] 0 0 M := by
  unfold m_X9_bitsOfDouble_J90 at hf
  refine ev_dload_n C dX9_bitsOfDouble_90 rfl (q := 1) rfl ?_
  refine ev_dconst1 C dX9_bitsOfDouble_91 ?_
  obtain ⟨x1, e2, hf⟩ := obnd hf
  obtain ⟨e2, e2q⟩ := oD_eq e2
  refine ev_dsub C dX9_bitsOfDouble_92 e2 ?_
  rw [← e2q]
  refine ev_ldc2d (v := 4841369599423283200) C dX9_bitsOfDouble_93 kw_491 ?_
  obtain ⟨x3, e4, hf⟩ := obnd hf
  obtain ⟨e4, e4q⟩ := oD_eq e4
  refine ev_dmul C dX9_bitsOfDouble_96 e4 ?_
  rw [← e4q]
  refine ev_d2l C dX9_bitsOfDouble_97 ?_
  refine ev_lstore (l' := [(5, .long (FP.d2l x3)), (0, .double d0), (2, .double d2), (4, .int i4)]) C dX9_bitsOfDouble_98 (by decide) rfl ?_
  refine ev_dload_n C dX9_bitsOfDouble_100 rfl (q := 1) rfl ?_
  refine ev_dconst0 C dX9_bitsOfDouble_101 ?_
  refine ev_dcmp C dX9_bitsOfDouble_102 ?_
  refine ev_if_ge (tgt := 112) C dX9_bitsOfDouble_103 (by decide) (fun hc => ?_) (fun hc => ?_)
  · have hf := oit hf hc
    refine ev_lconst (v := 0) C dX9_bitsOfDouble_112 (by decide) ?_
    refine ev_sub [3, 0] rfl ?_
    exact t_X9_bitsOfDouble_J113 C E   i4 (FP.d2l x3) 0 hf
  · have hf := oie hf hc
    refine ev_ldc2 (v := (-9223372036854775808)) C dX9_bitsOfDouble_106 kw_492 ?_
    refine ev_goto (tgt := 113) C dX9_bitsOfDouble_109 (by decide) ?_
    refine ev_sub [3, 0] rfl ?_
    exact t_X9_bitsOfDouble_J113 C E   i4 (FP.d2l x3) (-9223372036854775808) hf
def m_X9_bitsOfDouble_L60 (N : Nat)  : Nat → UInt64 → UInt64 → Int32 → Int32 → Option (Int64)
  | 0, _, _, _, _ => none
  | n + 1, d0, d2, i4, i5 =>
    if 32 ≤ i5 then (
      m_X9_bitsOfDouble_J90 N  d0 d2 i4) else (
      if (Op.cmpValue (FP.dcmp d2 4611686018427387904) CmpOp.l) < 0 then (
        m_X9_bitsOfDouble_J90 N  d0 d2 i4) else (
        (oD (FP.ddiv d2 4611686018427387904)).bind fun x1 =>
        (m_X9_bitsOfDouble_L60 N  n) d0 x1 (i4 + 1) (i5 + 1)))
set_option maxHeartbeats 4000000 in
set_option maxRecDepth 100000 in
theorem t_X9_bitsOfDouble_L60 {X : mX} {M : mM} {L0 : Launch} {res : Int64} {N : Nat} (C : CX X RX9 "bitsOfDouble" prog_11_method_9_code 7 (some .long)) (E : EX X L0 0 0 0 0 (some (.long res)) M)   : ∀ (n : Nat) (d0 : UInt64) (d2 : UInt64) (i4 : Int32) (i5 : Int32), m_X9_bitsOfDouble_L60 N  n d0 d2 i4 i5 = some res → EV X 7 60 [(0, .double d0), (2, .double d2), (4, .int i4), (5, .int i5)] [] 0 0 M := by
  intro n
  induction n with
  | zero => intro d0 d2 i4 i5 hf; cases (show (none : Option (Int64)) = some res from hf)
  | succ n ih =>
    intro d0 d2 i4 i5 hf
    rw [m_X9_bitsOfDouble_L60] at hf
    refine ev_iload C dX9_bitsOfDouble_60 (q := 3) rfl ?_
    refine ev_bipush (v := 32) C dX9_bitsOfDouble_62 (by decide) ?_
    refine ev_icmp_ge (tgt := 90) C dX9_bitsOfDouble_64 (by decide) (fun hc => ?_) (fun hc => ?_)
    · have hf := oit hf hc
      refine ev_sub [0, 1, 2] rfl ?_
      exact t_X9_bitsOfDouble_J90 C E   d0 d2 i4 hf
    · have hf := oie hf hc
      refine ev_dload_n C dX9_bitsOfDouble_67 rfl (q := 1) rfl ?_
      refine ev_ldc2d (v := 4611686018427387904) C dX9_bitsOfDouble_68 kw_490 ?_
      refine ev_dcmp C dX9_bitsOfDouble_71 ?_
      refine ev_if_lt (tgt := 90) C dX9_bitsOfDouble_72 (by decide) (fun hc => ?_) (fun hc => ?_)
      · have hf := oit hf hc
        refine ev_sub [0, 1, 2] rfl ?_
        exact t_X9_bitsOfDouble_J90 C E   d0 d2 i4 hf
      · have hf := oie hf hc
        refine ev_dload_n C dX9_bitsOfDouble_75 rfl (q := 1) rfl ?_
        refine ev_ldc2d (v := 4611686018427387904) C dX9_bitsOfDouble_76 kw_490 ?_
        obtain ⟨x1, e2, hf⟩ := obnd hf
        obtain ⟨e2, e2q⟩ := oD_eq e2
        refine ev_ddiv C dX9_bitsOfDouble_79 e2 ?_
        rw [← e2q]
        refine ev_dstore_n (l' := [(2, .double x1), (0, .double d0), (4, .int i4), (5, .int i5)]) C dX9_bitsOfDouble_80 rfl (by decide) rfl ?_
        refine ev_iinc (v := i4 + 1) (l' := [(4, .int (i4 + 1)), (2, .double x1), (0, .double d0), (5, .int i5)]) C dX9_bitsOfDouble_81 (q := 2) rfl rfl (by decide) rfl ?_
        refine ev_iinc (v := i5 + 1) (l' := [(5, .int (i5 + 1)), (4, .int (i4 + 1)), (2, .double x1), (0, .double d0)]) C dX9_bitsOfDouble_84 (q := 3) rfl rfl (by decide) rfl ?_
        refine ev_goto (tgt := 60) C dX9_bitsOfDouble_87 (by decide) ?_
        refine ev_sub [3, 2, 1, 0] rfl ?_
        exact ih d0 x1 (i4 + 1) (i5 + 1) hf
def m_X9_bitsOfDouble_J57 (N : Nat)  (d0 : UInt64) (d2 : UInt64) (i4 : Int32) : Option (Int64) :=
  m_X9_bitsOfDouble_L60 N  N d0 d2 i4 0
set_option maxHeartbeats 4000000 in
set_option maxRecDepth 100000 in
theorem t_X9_bitsOfDouble_J57 {X : mX} {M : mM} {L0 : Launch} {res : Int64} {N : Nat} (C : CX X RX9 "bitsOfDouble" prog_11_method_9_code 7 (some .long)) (E : EX X L0 0 0 0 0 (some (.long res)) M)   (d0 : UInt64) (d2 : UInt64) (i4 : Int32) (hf : m_X9_bitsOfDouble_J57 N  d0 d2 i4 = some res) : EV X 7 57 [(0, .double d0), (2, .double d2), (4, .int i4)] [] 0 0 M := by
  unfold m_X9_bitsOfDouble_J57 at hf
  refine ev_iconst (v := 0) C dX9_bitsOfDouble_57 (by decide) ?_
  refine ev_istore (l' := [(5, .int 0), (0, .double d0), (2, .double d2), (4, .int i4)]) C dX9_bitsOfDouble_58 (by decide) rfl ?_
  refine ev_sub [1, 2, 3, 0] rfl ?_
  exact t_X9_bitsOfDouble_L60 C E   N d0 d2 i4 0 hf
def m_X9_bitsOfDouble_L29 (N : Nat)  : Nat → UInt64 → UInt64 → Int32 → Int32 → Option (Int64)
  | 0, _, _, _, _ => none
  | n + 1, d0, d2, i4, i5 =>
    if 32 ≤ i5 then (
      m_X9_bitsOfDouble_J57 N  d0 d2 i4) else (
      if 0 ≤ (Op.cmpValue (FP.dcmp d2 FP.dconst1) CmpOp.g) then (
        m_X9_bitsOfDouble_J57 N  d0 d2 i4) else (
        (oD (FP.dmul d2 4751297606875873280)).bind fun x1 =>
        (m_X9_bitsOfDouble_L29 N  n) d0 x1 (i4 + (-32)) (i5 + 1)))
set_option maxHeartbeats 4000000 in
set_option maxRecDepth 100000 in
theorem t_X9_bitsOfDouble_L29 {X : mX} {M : mM} {L0 : Launch} {res : Int64} {N : Nat} (C : CX X RX9 "bitsOfDouble" prog_11_method_9_code 7 (some .long)) (E : EX X L0 0 0 0 0 (some (.long res)) M)   : ∀ (n : Nat) (d0 : UInt64) (d2 : UInt64) (i4 : Int32) (i5 : Int32), m_X9_bitsOfDouble_L29 N  n d0 d2 i4 i5 = some res → EV X 7 29 [(0, .double d0), (2, .double d2), (4, .int i4), (5, .int i5)] [] 0 0 M := by
  intro n
  induction n with
  | zero => intro d0 d2 i4 i5 hf; cases (show (none : Option (Int64)) = some res from hf)
  | succ n ih =>
    intro d0 d2 i4 i5 hf
    rw [m_X9_bitsOfDouble_L29] at hf
    refine ev_iload C dX9_bitsOfDouble_29 (q := 3) rfl ?_
    refine ev_bipush (v := 32) C dX9_bitsOfDouble_31 (by decide) ?_
    refine ev_icmp_ge (tgt := 57) C dX9_bitsOfDouble_33 (by decide) (fun hc => ?_) (fun hc => ?_)
    · have hf := oit hf hc
      refine ev_sub [0, 1, 2] rfl ?_
      exact t_X9_bitsOfDouble_J57 C E   d0 d2 i4 hf
    · have hf := oie hf hc
      refine ev_dload_n C dX9_bitsOfDouble_36 rfl (q := 1) rfl ?_
      refine ev_dconst1 C dX9_bitsOfDouble_37 ?_
      refine ev_dcmp C dX9_bitsOfDouble_38 ?_
      refine ev_if_ge (tgt := 57) C dX9_bitsOfDouble_39 (by decide) (fun hc => ?_) (fun hc => ?_)
      · have hf := oit hf hc
        refine ev_sub [0, 1, 2] rfl ?_
        exact t_X9_bitsOfDouble_J57 C E   d0 d2 i4 hf
      · have hf := oie hf hc
        refine ev_dload_n C dX9_bitsOfDouble_42 rfl (q := 1) rfl ?_
        refine ev_ldc2d (v := 4751297606875873280) C dX9_bitsOfDouble_43 kw_489 ?_
        obtain ⟨x1, e2, hf⟩ := obnd hf
        obtain ⟨e2, e2q⟩ := oD_eq e2
        refine ev_dmul C dX9_bitsOfDouble_46 e2 ?_
        rw [← e2q]
        refine ev_dstore_n (l' := [(2, .double x1), (0, .double d0), (4, .int i4), (5, .int i5)]) C dX9_bitsOfDouble_47 rfl (by decide) rfl ?_
        refine ev_iinc (v := i4 + (-32)) (l' := [(4, .int (i4 + (-32))), (2, .double x1), (0, .double d0), (5, .int i5)]) C dX9_bitsOfDouble_48 (q := 2) rfl rfl (by decide) rfl ?_
        refine ev_iinc (v := i5 + 1) (l' := [(5, .int (i5 + 1)), (4, .int (i4 + (-32))), (2, .double x1), (0, .double d0)]) C dX9_bitsOfDouble_51 (q := 3) rfl rfl (by decide) rfl ?_
        refine ev_goto (tgt := 29) C dX9_bitsOfDouble_54 (by decide) ?_
        refine ev_sub [3, 2, 1, 0] rfl ?_
        exact ih d0 x1 (i4 + (-32)) (i5 + 1) hf
def m_X9_bitsOfDouble_J20 (N : Nat)  (d0 : UInt64) (sd0 : UInt64) : Option (Int64) :=
  m_X9_bitsOfDouble_L29 N  N d0 sd0 1023 0
set_option maxHeartbeats 4000000 in
set_option maxRecDepth 100000 in
theorem t_X9_bitsOfDouble_J20 {X : mX} {M : mM} {L0 : Launch} {res : Int64} {N : Nat} (C : CX X RX9 "bitsOfDouble" prog_11_method_9_code 7 (some .long)) (E : EX X L0 0 0 0 0 (some (.long res)) M)   (d0 : UInt64) (sd0 : UInt64) (hf : m_X9_bitsOfDouble_J20 N  d0 sd0 = some res) : EV X 7 20 [(0, .double d0)] [.double sd0] 0 0 M := by
  unfold m_X9_bitsOfDouble_J20 at hf
  refine ev_dstore_n (l' := [(2, .double sd0), (0, .double d0)]) C dX9_bitsOfDouble_20 rfl (by decide) rfl ?_
  refine ev_sipush (v := 1023) C dX9_bitsOfDouble_21 (by decide) ?_
  refine ev_istore (l' := [(4, .int 1023), (2, .double sd0), (0, .double d0)]) C dX9_bitsOfDouble_24 (by decide) rfl ?_
  refine ev_iconst (v := 0) C dX9_bitsOfDouble_26 (by decide) ?_
  refine ev_istore (l' := [(5, .int 0), (4, .int 1023), (2, .double sd0), (0, .double d0)]) C dX9_bitsOfDouble_27 (by decide) rfl ?_
  refine ev_sub [3, 2, 1, 0] rfl ?_
  exact t_X9_bitsOfDouble_L29 C E   N d0 sd0 1023 0 hf
def m_X9_bitsOfDouble (N : Nat) (d0 : UInt64) : Option (Int64) :=
  if (Op.cmpValue (FP.dcmp d0 FP.dconst0) CmpOp.l) = 0 then (
    some 0) else (
    if 0 ≤ (Op.cmpValue (FP.dcmp d0 FP.dconst0) CmpOp.g) then (
      m_X9_bitsOfDouble_J20 N  d0 d0) else (
      m_X9_bitsOfDouble_J20 N  d0 (FP.dneg d0)))
set_option maxHeartbeats 4000000 in
set_option maxRecDepth 100000 in
theorem t_X9_bitsOfDouble {L0 : Launch} {M : mM} {N : Nat} {d0 : UInt64} {res : Int64} (hf : m_X9_bitsOfDouble N d0 = some res) : CT L0 yX9_bitsOfDouble prog_11_method_9_code 7 (some .long) 0 0 0 0 [.double d0] M (some (.long res)) M := by
  refine CT.of (by decide +kernel) (Nat.le_of_ble_eq_true rfl) fun X C E => ?_
  have C : CX X RX9 "bitsOfDouble" prog_11_method_9_code 7 (some .long) := C
  show EV X 7 0 [(0, .double d0)] [] 0 0 M
  unfold m_X9_bitsOfDouble at hf
  refine ev_dload_n C dX9_bitsOfDouble_0 rfl (q := 0) rfl ?_
  refine ev_dconst0 C dX9_bitsOfDouble_1 ?_
  refine ev_dcmp C dX9_bitsOfDouble_2 ?_
  refine ev_if_ne (tgt := 8) C dX9_bitsOfDouble_3 (by decide) (fun hc => ?_) (fun hc => ?_)
  · have hf := oie hf hc
    refine ev_dload_n C dX9_bitsOfDouble_8 rfl (q := 0) rfl ?_
    refine ev_dconst0 C dX9_bitsOfDouble_9 ?_
    refine ev_dcmp C dX9_bitsOfDouble_10 ?_
    refine ev_if_ge (tgt := 19) C dX9_bitsOfDouble_11 (by decide) (fun hc => ?_) (fun hc => ?_)
    · have hf := oit hf hc
      refine ev_dload_n C dX9_bitsOfDouble_19 rfl (q := 0) rfl ?_
      exact t_X9_bitsOfDouble_J20 C E   d0 d0 hf
    · have hf := oie hf hc
      refine ev_dload_n C dX9_bitsOfDouble_14 rfl (q := 0) rfl ?_
      refine ev_dneg C dX9_bitsOfDouble_15 ?_
      refine ev_goto (tgt := 20) C dX9_bitsOfDouble_16 (by decide) ?_
      exact t_X9_bitsOfDouble_J20 C E   d0 (FP.dneg d0) hf
  · have hf := oit hf hc
    refine ev_lconst (v := 0) C dX9_bitsOfDouble_6 (by decide) ?_
    cases hf
    exact ev_lret C E (Nat.le_refl 0) (Nat.le_refl 0) dX9_bitsOfDouble_7
end
