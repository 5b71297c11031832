-- ===== PART A: goes FIRST, ahead of the names: the tables' words, and 'selects' of the private methods out of them =====
/-- a private method of a class that the tables say can be made, by its rows of tables_1 -/
def lw_okq (q : MethodName × Nat) : Prop := (q.1.cls ≠ "java/lang/invoke/MethodHandle" ∧ q.1.cls ≠ "java/lang/invoke/VarHandle") ∧ Cond.instantiable q.1.cls q.2 ∈ tables_1 ∧ Cond.privateMethod q.1 ∈ tables_1 ∧ Cond.instanceMethod q.1 ∈ tables_1
theorem lw_p0 : lw_okq (⟨"FareLimits$Worths", "make", "(I)V"⟩, 4) := ⟨⟨by decide +kernel, by decide +kernel⟩, List.mem_of_getElem? (i := 140) (by decide +kernel), List.mem_of_getElem? (i := 447) (by decide +kernel), List.mem_of_getElem? (i := 448) (by decide +kernel)⟩
theorem lw_p1 : lw_okq (⟨"FareLimits$Worths", "worthOf", "([DII)D"⟩, 4) := ⟨⟨by decide +kernel, by decide +kernel⟩, List.mem_of_getElem? (i := 140) (by decide +kernel), List.mem_of_getElem? (i := 456) (by decide +kernel), List.mem_of_getElem? (i := 457) (by decide +kernel)⟩
theorem lw_p2 : lw_okq (⟨"FareLimits$Whole", "nextGross", "(IIJ)J"⟩, 2) := ⟨⟨by decide +kernel, by decide +kernel⟩, List.mem_of_getElem? (i := 162) (by decide +kernel), List.mem_of_getElem? (i := 487) (by decide +kernel), List.mem_of_getElem? (i := 488) (by decide +kernel)⟩
theorem lw_p3 : lw_okq (⟨"FareLimits$Chances", "begin", "()V"⟩, 2) := ⟨⟨by decide +kernel, by decide +kernel⟩, List.mem_of_getElem? (i := 176) (by decide +kernel), List.mem_of_getElem? (i := 534) (by decide +kernel), List.mem_of_getElem? (i := 535) (by decide +kernel)⟩
theorem lw_p4 : lw_okq (⟨"FareLimits$Chances", "oneMore", "(IDD)V"⟩, 2) := ⟨⟨by decide +kernel, by decide +kernel⟩, List.mem_of_getElem? (i := 176) (by decide +kernel), List.mem_of_getElem? (i := 541) (by decide +kernel), List.mem_of_getElem? (i := 542) (by decide +kernel)⟩
theorem lw_p5 : lw_okq (⟨"FareLimits$Whole", "setsOf", "(II)J"⟩, 2) := ⟨⟨by decide +kernel, by decide +kernel⟩, List.mem_of_getElem? (i := 162) (by decide +kernel), List.mem_of_getElem? (i := 582) (by decide +kernel), List.mem_of_getElem? (i := 583) (by decide +kernel)⟩
theorem lw_p6 : lw_okq (⟨"FareLimits$Tape", "faultOfPart", "(LFareLimits$Network;)I"⟩, 9) := ⟨⟨by decide +kernel, by decide +kernel⟩, List.mem_of_getElem? (i := 189) (by decide +kernel), List.mem_of_getElem? (i := 631) (by decide +kernel), List.mem_of_getElem? (i := 632) (by decide +kernel)⟩
theorem lw_p7 : lw_okq (⟨"FareLimits$Tape", "faultOfName", "(LFareLimits$Network;)I"⟩, 9) := ⟨⟨by decide +kernel, by decide +kernel⟩, List.mem_of_getElem? (i := 189) (by decide +kernel), List.mem_of_getElem? (i := 635) (by decide +kernel), List.mem_of_getElem? (i := 636) (by decide +kernel)⟩
theorem lw_p8 : lw_okq (⟨"FareLimits$Tape", "byteAt", "(I)I"⟩, 9) := ⟨⟨by decide +kernel, by decide +kernel⟩, List.mem_of_getElem? (i := 189) (by decide +kernel), List.mem_of_getElem? (i := 639) (by decide +kernel), List.mem_of_getElem? (i := 640) (by decide +kernel)⟩
theorem lw_p9 : lw_okq (⟨"FareLimits$Tape", "isRead", "(I)Z"⟩, 9) := ⟨⟨by decide +kernel, by decide +kernel⟩, List.mem_of_getElem? (i := 189) (by decide +kernel), List.mem_of_getElem? (i := 650) (by decide +kernel), List.mem_of_getElem? (i := 651) (by decide +kernel)⟩
theorem lw_p10 : lw_okq (⟨"FareLimits$Tape", "faultOfSign", "(I)I"⟩, 9) := ⟨⟨by decide +kernel, by decide +kernel⟩, List.mem_of_getElem? (i := 189) (by decide +kernel), List.mem_of_getElem? (i := 654) (by decide +kernel), List.mem_of_getElem? (i := 655) (by decide +kernel)⟩
theorem lw_p11 : lw_okq (⟨"FareLimits$Tape", "faultOfLegs", "()I"⟩, 9) := ⟨⟨by decide +kernel, by decide +kernel⟩, List.mem_of_getElem? (i := 189) (by decide +kernel), List.mem_of_getElem? (i := 658) (by decide +kernel), List.mem_of_getElem? (i := 659) (by decide +kernel)⟩
theorem lw_p12 : lw_okq (⟨"FareLimits$Tape", "faultOfPrice", "()I"⟩, 9) := ⟨⟨by decide +kernel, by decide +kernel⟩, List.mem_of_getElem? (i := 189) (by decide +kernel), List.mem_of_getElem? (i := 662) (by decide +kernel), List.mem_of_getElem? (i := 663) (by decide +kernel)⟩
theorem lw_p13 : lw_okq (⟨"FareLimits$Tape", "numberOf", "(I)I"⟩, 9) := ⟨⟨by decide +kernel, by decide +kernel⟩, List.mem_of_getElem? (i := 189) (by decide +kernel), List.mem_of_getElem? (i := 666) (by decide +kernel), List.mem_of_getElem? (i := 667) (by decide +kernel)⟩
theorem lw_p14 : lw_okq (⟨"FareLimits$Tape", "faultOfWanted", "()I"⟩, 9) := ⟨⟨by decide +kernel, by decide +kernel⟩, List.mem_of_getElem? (i := 189) (by decide +kernel), List.mem_of_getElem? (i := 670) (by decide +kernel), List.mem_of_getElem? (i := 671) (by decide +kernel)⟩
theorem lw_p15 : lw_okq (⟨"FareLimits$Network", "dearestBut", "(II)I"⟩, 4) := ⟨⟨by decide +kernel, by decide +kernel⟩, List.mem_of_getElem? (i := 46) (by decide +kernel), List.mem_of_getElem? (i := 732) (by decide +kernel), List.mem_of_getElem? (i := 733) (by decide +kernel)⟩
def lw_privs_1 : List (MethodName × Nat) := [(⟨"FareLimits$Worths", "make", "(I)V"⟩, 4), (⟨"FareLimits$Worths", "worthOf", "([DII)D"⟩, 4), (⟨"FareLimits$Whole", "nextGross", "(IIJ)J"⟩, 2), (⟨"FareLimits$Chances", "begin", "()V"⟩, 2), (⟨"FareLimits$Chances", "oneMore", "(IDD)V"⟩, 2), (⟨"FareLimits$Whole", "setsOf", "(II)J"⟩, 2), (⟨"FareLimits$Tape", "faultOfPart", "(LFareLimits$Network;)I"⟩, 9), (⟨"FareLimits$Tape", "faultOfName", "(LFareLimits$Network;)I"⟩, 9), (⟨"FareLimits$Tape", "byteAt", "(I)I"⟩, 9), (⟨"FareLimits$Tape", "isRead", "(I)Z"⟩, 9), (⟨"FareLimits$Tape", "faultOfSign", "(I)I"⟩, 9), (⟨"FareLimits$Tape", "faultOfLegs", "()I"⟩, 9), (⟨"FareLimits$Tape", "faultOfPrice", "()I"⟩, 9), (⟨"FareLimits$Tape", "numberOf", "(I)I"⟩, 9), (⟨"FareLimits$Tape", "faultOfWanted", "()I"⟩, 9), (⟨"FareLimits$Network", "dearestBut", "(II)I"⟩, 4)]
theorem lw_r1 : ∀ q ∈ lw_privs_1, lw_okq q := List.forall_mem_cons.mpr ⟨lw_p0, List.forall_mem_cons.mpr ⟨lw_p1, List.forall_mem_cons.mpr ⟨lw_p2, List.forall_mem_cons.mpr ⟨lw_p3, List.forall_mem_cons.mpr ⟨lw_p4, List.forall_mem_cons.mpr ⟨lw_p5, List.forall_mem_cons.mpr ⟨lw_p6, List.forall_mem_cons.mpr ⟨lw_p7, List.forall_mem_cons.mpr ⟨lw_p8, List.forall_mem_cons.mpr ⟨lw_p9, List.forall_mem_cons.mpr ⟨lw_p10, List.forall_mem_cons.mpr ⟨lw_p11, List.forall_mem_cons.mpr ⟨lw_p12, List.forall_mem_cons.mpr ⟨lw_p13, List.forall_mem_cons.mpr ⟨lw_p14, List.forall_mem_cons.mpr ⟨lw_p15, fun _ h => absurd h List.not_mem_nil⟩⟩⟩⟩⟩⟩⟩⟩⟩⟩⟩⟩⟩⟩⟩⟩
theorem lw_p16 : lw_okq (⟨"FareLimits$Network", "spellRoute", "(Ljava/lang/StringBuilder;LFareLimits$Route;)V"⟩, 4) := ⟨⟨by decide +kernel, by decide +kernel⟩, List.mem_of_getElem? (i := 46) (by decide +kernel), List.mem_of_getElem? (i := 878) (by decide +kernel), List.mem_of_getElem? (i := 879) (by decide +kernel)⟩
theorem lw_p17 : lw_okq (⟨"FareLimits", "answerRequests", "(II)I"⟩, 12) := ⟨⟨by decide +kernel, by decide +kernel⟩, List.mem_of_getElem? (i := 30) (by decide +kernel), List.mem_of_getElem? (i := 945) (by decide +kernel), List.mem_of_getElem? (i := 946) (by decide +kernel)⟩
theorem lw_p18 : lw_okq (⟨"FareLimits$Day", "handGives", "(I)Z"⟩, 9) := ⟨⟨by decide +kernel, by decide +kernel⟩, List.mem_of_getElem? (i := 227) (by decide +kernel), List.mem_of_getElem? (i := 968) (by decide +kernel), List.mem_of_getElem? (i := 969) (by decide +kernel)⟩
theorem lw_p19 : lw_okq (⟨"FareLimits$Day", "fareDrawn", "(II)I"⟩, 9) := ⟨⟨by decide +kernel, by decide +kernel⟩, List.mem_of_getElem? (i := 227) (by decide +kernel), List.mem_of_getElem? (i := 992) (by decide +kernel), List.mem_of_getElem? (i := 993) (by decide +kernel)⟩
theorem lw_p20 : lw_okq (⟨"FareLimitsModel", "isFare", "(I)Z"⟩, 29) := ⟨⟨by decide +kernel, by decide +kernel⟩, List.mem_of_getElem? (i := 1085) (by decide +kernel), List.mem_of_getElem? (i := 1193) (by decide +kernel), List.mem_of_getElem? (i := 1194) (by decide +kernel)⟩
theorem lw_p21 : lw_okq (⟨"FareLimitsModel", "price", "(I)I"⟩, 29) := ⟨⟨by decide +kernel, by decide +kernel⟩, List.mem_of_getElem? (i := 1085) (by decide +kernel), List.mem_of_getElem? (i := 1198) (by decide +kernel), List.mem_of_getElem? (i := 1199) (by decide +kernel)⟩
theorem lw_p22 : lw_okq (⟨"FareLimitsModel", "showing", "(I)D"⟩, 29) := ⟨⟨by decide +kernel, by decide +kernel⟩, List.mem_of_getElem? (i := 1085) (by decide +kernel), List.mem_of_getElem? (i := 1225) (by decide +kernel), List.mem_of_getElem? (i := 1226) (by decide +kernel)⟩
theorem lw_p23 : lw_okq (⟨"FareLimitsModel", "netOf", "(II)D"⟩, 29) := ⟨⟨by decide +kernel, by decide +kernel⟩, List.mem_of_getElem? (i := 1085) (by decide +kernel), List.mem_of_getElem? (i := 1245) (by decide +kernel), List.mem_of_getElem? (i := 1246) (by decide +kernel)⟩
theorem lw_p24 : lw_okq (⟨"FareLimitsModel", "isSeat", "(I)Z"⟩, 29) := ⟨⟨by decide +kernel, by decide +kernel⟩, List.mem_of_getElem? (i := 1085) (by decide +kernel), List.mem_of_getElem? (i := 1262) (by decide +kernel), List.mem_of_getElem? (i := 1263) (by decide +kernel)⟩
theorem lw_p25 : lw_okq (⟨"FareLimitsModel", "reckons", "(I)V"⟩, 29) := ⟨⟨by decide +kernel, by decide +kernel⟩, List.mem_of_getElem? (i := 1085) (by decide +kernel), List.mem_of_getElem? (i := 1266) (by decide +kernel), List.mem_of_getElem? (i := 1267) (by decide +kernel)⟩
theorem lw_p26 : lw_okq (⟨"FareLimitsModel", "worthOf", "(II)D"⟩, 29) := ⟨⟨by decide +kernel, by decide +kernel⟩, List.mem_of_getElem? (i := 1085) (by decide +kernel), List.mem_of_getElem? (i := 1270) (by decide +kernel), List.mem_of_getElem? (i := 1271) (by decide +kernel)⟩
theorem lw_p27 : lw_okq (⟨"FareLimitsModel", "gain", "(III)D"⟩, 29) := ⟨⟨by decide +kernel, by decide +kernel⟩, List.mem_of_getElem? (i := 1085) (by decide +kernel), List.mem_of_getElem? (i := 1274) (by decide +kernel), List.mem_of_getElem? (i := 1275) (by decide +kernel)⟩
theorem lw_p28 : lw_okq (⟨"FareLimitsModel", "odds", "(II)I"⟩, 29) := ⟨⟨by decide +kernel, by decide +kernel⟩, List.mem_of_getElem? (i := 1085) (by decide +kernel), List.mem_of_getElem? (i := 1278) (by decide +kernel), List.mem_of_getElem? (i := 1279) (by decide +kernel)⟩
theorem lw_p29 : lw_okq (⟨"FareLimitsModel", "next", "(II)J"⟩, 29) := ⟨⟨by decide +kernel, by decide +kernel⟩, List.mem_of_getElem? (i := 1085) (by decide +kernel), List.mem_of_getElem? (i := 1300) (by decide +kernel), List.mem_of_getElem? (i := 1301) (by decide +kernel)⟩
theorem lw_p30 : lw_okq (⟨"FareLimitsModel", "times", "(JJ)J"⟩, 29) := ⟨⟨by decide +kernel, by decide +kernel⟩, List.mem_of_getElem? (i := 1085) (by decide +kernel), List.mem_of_getElem? (i := 1304) (by decide +kernel), List.mem_of_getElem? (i := 1305) (by decide +kernel)⟩
theorem lw_p31 : lw_okq (⟨"FareLimitsModel", "power", "(II)J"⟩, 29) := ⟨⟨by decide +kernel, by decide +kernel⟩, List.mem_of_getElem? (i := 1085) (by decide +kernel), List.mem_of_getElem? (i := 1309) (by decide +kernel), List.mem_of_getElem? (i := 1310) (by decide +kernel)⟩
def lw_privs_2 : List (MethodName × Nat) := [(⟨"FareLimits$Network", "spellRoute", "(Ljava/lang/StringBuilder;LFareLimits$Route;)V"⟩, 4), (⟨"FareLimits", "answerRequests", "(II)I"⟩, 12), (⟨"FareLimits$Day", "handGives", "(I)Z"⟩, 9), (⟨"FareLimits$Day", "fareDrawn", "(II)I"⟩, 9), (⟨"FareLimitsModel", "isFare", "(I)Z"⟩, 29), (⟨"FareLimitsModel", "price", "(I)I"⟩, 29), (⟨"FareLimitsModel", "showing", "(I)D"⟩, 29), (⟨"FareLimitsModel", "netOf", "(II)D"⟩, 29), (⟨"FareLimitsModel", "isSeat", "(I)Z"⟩, 29), (⟨"FareLimitsModel", "reckons", "(I)V"⟩, 29), (⟨"FareLimitsModel", "worthOf", "(II)D"⟩, 29), (⟨"FareLimitsModel", "gain", "(III)D"⟩, 29), (⟨"FareLimitsModel", "odds", "(II)I"⟩, 29), (⟨"FareLimitsModel", "next", "(II)J"⟩, 29), (⟨"FareLimitsModel", "times", "(JJ)J"⟩, 29), (⟨"FareLimitsModel", "power", "(II)J"⟩, 29)]
theorem lw_r2 : ∀ q ∈ lw_privs_2, lw_okq q := List.forall_mem_cons.mpr ⟨lw_p16, List.forall_mem_cons.mpr ⟨lw_p17, List.forall_mem_cons.mpr ⟨lw_p18, List.forall_mem_cons.mpr ⟨lw_p19, List.forall_mem_cons.mpr ⟨lw_p20, List.forall_mem_cons.mpr ⟨lw_p21, List.forall_mem_cons.mpr ⟨lw_p22, List.forall_mem_cons.mpr ⟨lw_p23, List.forall_mem_cons.mpr ⟨lw_p24, List.forall_mem_cons.mpr ⟨lw_p25, List.forall_mem_cons.mpr ⟨lw_p26, List.forall_mem_cons.mpr ⟨lw_p27, List.forall_mem_cons.mpr ⟨lw_p28, List.forall_mem_cons.mpr ⟨lw_p29, List.forall_mem_cons.mpr ⟨lw_p30, List.forall_mem_cons.mpr ⟨lw_p31, fun _ h => absurd h List.not_mem_nil⟩⟩⟩⟩⟩⟩⟩⟩⟩⟩⟩⟩⟩⟩⟩⟩
theorem lw_p32 : lw_okq (⟨"FareLimitsModel", "plus", "(JJ)J"⟩, 29) := ⟨⟨by decide +kernel, by decide +kernel⟩, List.mem_of_getElem? (i := 1085) (by decide +kernel), List.mem_of_getElem? (i := 1313) (by decide +kernel), List.mem_of_getElem? (i := 1314) (by decide +kernel)⟩
theorem lw_p33 : lw_okq (⟨"FareLimitsModel", "isTaken", "(III)Z"⟩, 29) := ⟨⟨by decide +kernel, by decide +kernel⟩, List.mem_of_getElem? (i := 1085) (by decide +kernel), List.mem_of_getElem? (i := 1325) (by decide +kernel), List.mem_of_getElem? (i := 1326) (by decide +kernel)⟩
theorem lw_p34 : lw_okq (⟨"FareLimitsModel", "chances", "(II)V"⟩, 29) := ⟨⟨by decide +kernel, by decide +kernel⟩, List.mem_of_getElem? (i := 1085) (by decide +kernel), List.mem_of_getElem? (i := 1346) (by decide +kernel), List.mem_of_getElem? (i := 1347) (by decide +kernel)⟩
theorem lw_p35 : lw_okq (⟨"FareLimitsModel", "turnedOf", "(I)D"⟩, 29) := ⟨⟨by decide +kernel, by decide +kernel⟩, List.mem_of_getElem? (i := 1085) (by decide +kernel), List.mem_of_getElem? (i := 1354) (by decide +kernel), List.mem_of_getElem? (i := 1355) (by decide +kernel)⟩
theorem lw_p36 : lw_okq (⟨"FareLimitsModel", "hadOf", "(II)D"⟩, 29) := ⟨⟨by decide +kernel, by decide +kernel⟩, List.mem_of_getElem? (i := 1085) (by decide +kernel), List.mem_of_getElem? (i := 1362) (by decide +kernel), List.mem_of_getElem? (i := 1363) (by decide +kernel)⟩
theorem lw_p37 : lw_okq (⟨"FareLimitsModel", "setsOf", "(II)J"⟩, 29) := ⟨⟨by decide +kernel, by decide +kernel⟩, List.mem_of_getElem? (i := 1085) (by decide +kernel), List.mem_of_getElem? (i := 1374) (by decide +kernel), List.mem_of_getElem? (i := 1375) (by decide +kernel)⟩
theorem lw_p38 : lw_okq (⟨"FareLimitsModel", "asks", "(II)V"⟩, 29) := ⟨⟨by decide +kernel, by decide +kernel⟩, List.mem_of_getElem? (i := 1085) (by decide +kernel), List.mem_of_getElem? (i := 1382) (by decide +kernel), List.mem_of_getElem? (i := 1383) (by decide +kernel)⟩
theorem lw_p39 : lw_okq (⟨"FareLimitsModel", "opens", "()V"⟩, 29) := ⟨⟨by decide +kernel, by decide +kernel⟩, List.mem_of_getElem? (i := 1085) (by decide +kernel), List.mem_of_getElem? (i := 1402) (by decide +kernel), List.mem_of_getElem? (i := 1403) (by decide +kernel)⟩
theorem lw_p40 : lw_okq (⟨"FareLimitsModel", "drawnFare", "(I)I"⟩, 29) := ⟨⟨by decide +kernel, by decide +kernel⟩, List.mem_of_getElem? (i := 1085) (by decide +kernel), List.mem_of_getElem? (i := 1406) (by decide +kernel), List.mem_of_getElem? (i := 1407) (by decide +kernel)⟩
theorem lw_p41 : lw_okq (⟨"FareLimitsModel", "has", "(III)Z"⟩, 29) := ⟨⟨by decide +kernel, by decide +kernel⟩, List.mem_of_getElem? (i := 1085) (by decide +kernel), List.mem_of_getElem? (i := 1411) (by decide +kernel), List.mem_of_getElem? (i := 1412) (by decide +kernel)⟩
theorem lw_p42 : lw_okq (⟨"FareLimitsModel", "isByHand", "(I)Z"⟩, 29) := ⟨⟨by decide +kernel, by decide +kernel⟩, List.mem_of_getElem? (i := 1085) (by decide +kernel), List.mem_of_getElem? (i := 1415) (by decide +kernel), List.mem_of_getElem? (i := 1416) (by decide +kernel)⟩
theorem lw_p43 : lw_okq (⟨"FareLimitsModel", "isRoute", "(I)Z"⟩, 29) := ⟨⟨by decide +kernel, by decide +kernel⟩, List.mem_of_getElem? (i := 1085) (by decide +kernel), List.mem_of_getElem? (i := 1431) (by decide +kernel), List.mem_of_getElem? (i := 1432) (by decide +kernel)⟩
theorem lw_p44 : lw_okq (⟨"FareLimitsModel", "isOver", "(II)Z"⟩, 29) := ⟨⟨by decide +kernel, by decide +kernel⟩, List.mem_of_getElem? (i := 1085) (by decide +kernel), List.mem_of_getElem? (i := 1435) (by decide +kernel), List.mem_of_getElem? (i := 1436) (by decide +kernel)⟩
theorem lw_p45 : lw_okq (⟨"FareLimitsModel", "legs", "(I)I"⟩, 29) := ⟨⟨by decide +kernel, by decide +kernel⟩, List.mem_of_getElem? (i := 1085) (by decide +kernel), List.mem_of_getElem? (i := 1439) (by decide +kernel), List.mem_of_getElem? (i := 1440) (by decide +kernel)⟩
theorem lw_p46 : lw_okq (⟨"FareLimitsModel", "partOf", "(II)F"⟩, 29) := ⟨⟨by decide +kernel, by decide +kernel⟩, List.mem_of_getElem? (i := 1085) (by decide +kernel), List.mem_of_getElem? (i := 1443) (by decide +kernel), List.mem_of_getElem? (i := 1444) (by decide +kernel)⟩
theorem lw_p47 : lw_okq (⟨"FareLimitsModel", "fee", "(I)I"⟩, 29) := ⟨⟨by decide +kernel, by decide +kernel⟩, List.mem_of_getElem? (i := 1085) (by decide +kernel), List.mem_of_getElem? (i := 1447) (by decide +kernel), List.mem_of_getElem? (i := 1448) (by decide +kernel)⟩
def lw_privs_3 : List (MethodName × Nat) := [(⟨"FareLimitsModel", "plus", "(JJ)J"⟩, 29), (⟨"FareLimitsModel", "isTaken", "(III)Z"⟩, 29), (⟨"FareLimitsModel", "chances", "(II)V"⟩, 29), (⟨"FareLimitsModel", "turnedOf", "(I)D"⟩, 29), (⟨"FareLimitsModel", "hadOf", "(II)D"⟩, 29), (⟨"FareLimitsModel", "setsOf", "(II)J"⟩, 29), (⟨"FareLimitsModel", "asks", "(II)V"⟩, 29), (⟨"FareLimitsModel", "opens", "()V"⟩, 29), (⟨"FareLimitsModel", "drawnFare", "(I)I"⟩, 29), (⟨"FareLimitsModel", "has", "(III)Z"⟩, 29), (⟨"FareLimitsModel", "isByHand", "(I)Z"⟩, 29), (⟨"FareLimitsModel", "isRoute", "(I)Z"⟩, 29), (⟨"FareLimitsModel", "isOver", "(II)Z"⟩, 29), (⟨"FareLimitsModel", "legs", "(I)I"⟩, 29), (⟨"FareLimitsModel", "partOf", "(II)F"⟩, 29), (⟨"FareLimitsModel", "fee", "(I)I"⟩, 29)]
theorem lw_r3 : ∀ q ∈ lw_privs_3, lw_okq q := List.forall_mem_cons.mpr ⟨lw_p32, List.forall_mem_cons.mpr ⟨lw_p33, List.forall_mem_cons.mpr ⟨lw_p34, List.forall_mem_cons.mpr ⟨lw_p35, List.forall_mem_cons.mpr ⟨lw_p36, List.forall_mem_cons.mpr ⟨lw_p37, List.forall_mem_cons.mpr ⟨lw_p38, List.forall_mem_cons.mpr ⟨lw_p39, List.forall_mem_cons.mpr ⟨lw_p40, List.forall_mem_cons.mpr ⟨lw_p41, List.forall_mem_cons.mpr ⟨lw_p42, List.forall_mem_cons.mpr ⟨lw_p43, List.forall_mem_cons.mpr ⟨lw_p44, List.forall_mem_cons.mpr ⟨lw_p45, List.forall_mem_cons.mpr ⟨lw_p46, List.forall_mem_cons.mpr ⟨lw_p47, fun _ h => absurd h List.not_mem_nil⟩⟩⟩⟩⟩⟩⟩⟩⟩⟩⟩⟩⟩⟩⟩⟩
theorem lw_p48 : lw_okq (⟨"FareLimitsModel", "costOf", "(I)F"⟩, 29) := ⟨⟨by decide +kernel, by decide +kernel⟩, List.mem_of_getElem? (i := 1085) (by decide +kernel), List.mem_of_getElem? (i := 1455) (by decide +kernel), List.mem_of_getElem? (i := 1456) (by decide +kernel)⟩
theorem lw_p49 : lw_okq (⟨"FareLimitsModel", "wanted", "(I)I"⟩, 29) := ⟨⟨by decide +kernel, by decide +kernel⟩, List.mem_of_getElem? (i := 1085) (by decide +kernel), List.mem_of_getElem? (i := 1459) (by decide +kernel), List.mem_of_getElem? (i := 1460) (by decide +kernel)⟩
theorem lw_p50 : lw_okq (⟨"FareLimitsModel", "letters", "(I)I"⟩, 29) := ⟨⟨by decide +kernel, by decide +kernel⟩, List.mem_of_getElem? (i := 1085) (by decide +kernel), List.mem_of_getElem? (i := 1467) (by decide +kernel), List.mem_of_getElem? (i := 1468) (by decide +kernel)⟩
theorem lw_p51 : lw_okq (⟨"FareLimitsModel", "isIn", "(I)Z"⟩, 29) := ⟨⟨by decide +kernel, by decide +kernel⟩, List.mem_of_getElem? (i := 1085) (by decide +kernel), List.mem_of_getElem? (i := 1471) (by decide +kernel), List.mem_of_getElem? (i := 1472) (by decide +kernel)⟩
theorem lw_p52 : lw_okq (⟨"FareLimitsModel", "readRoute", "()V"⟩, 29) := ⟨⟨by decide +kernel, by decide +kernel⟩, List.mem_of_getElem? (i := 1085) (by decide +kernel), List.mem_of_getElem? (i := 1491) (by decide +kernel), List.mem_of_getElem? (i := 1492) (by decide +kernel)⟩
theorem lw_p53 : lw_okq (⟨"FareLimitsModel", "wrong", "(I)V"⟩, 29) := ⟨⟨by decide +kernel, by decide +kernel⟩, List.mem_of_getElem? (i := 1085) (by decide +kernel), List.mem_of_getElem? (i := 1495) (by decide +kernel), List.mem_of_getElem? (i := 1496) (by decide +kernel)⟩
theorem lw_p54 : lw_okq (⟨"FareLimitsModel", "name", "()V"⟩, 29) := ⟨⟨by decide +kernel, by decide +kernel⟩, List.mem_of_getElem? (i := 1085) (by decide +kernel), List.mem_of_getElem? (i := 1499) (by decide +kernel), List.mem_of_getElem? (i := 1500) (by decide +kernel)⟩
theorem lw_p55 : lw_okq (⟨"FareLimitsModel", "isSign", "(II)Z"⟩, 29) := ⟨⟨by decide +kernel, by decide +kernel⟩, List.mem_of_getElem? (i := 1085) (by decide +kernel), List.mem_of_getElem? (i := 1503) (by decide +kernel), List.mem_of_getElem? (i := 1504) (by decide +kernel)⟩
theorem lw_p56 : lw_okq (⟨"FareLimitsModel", "by", "(I)I"⟩, 29) := ⟨⟨by decide +kernel, by decide +kernel⟩, List.mem_of_getElem? (i := 1085) (by decide +kernel), List.mem_of_getElem? (i := 1507) (by decide +kernel), List.mem_of_getElem? (i := 1508) (by decide +kernel)⟩
theorem lw_p57 : lw_okq (⟨"FareLimitsModel", "needs", "(I)V"⟩, 29) := ⟨⟨by decide +kernel, by decide +kernel⟩, List.mem_of_getElem? (i := 1085) (by decide +kernel), List.mem_of_getElem? (i := 1511) (by decide +kernel), List.mem_of_getElem? (i := 1512) (by decide +kernel)⟩
theorem lw_p58 : lw_okq (⟨"FareLimitsModel", "takes", "(I)Z"⟩, 29) := ⟨⟨by decide +kernel, by decide +kernel⟩, List.mem_of_getElem? (i := 1085) (by decide +kernel), List.mem_of_getElem? (i := 1515) (by decide +kernel), List.mem_of_getElem? (i := 1516) (by decide +kernel)⟩
theorem lw_p59 : lw_okq (⟨"FareLimitsModel", "number", "(II)I"⟩, 29) := ⟨⟨by decide +kernel, by decide +kernel⟩, List.mem_of_getElem? (i := 1085) (by decide +kernel), List.mem_of_getElem? (i := 1519) (by decide +kernel), List.mem_of_getElem? (i := 1520) (by decide +kernel)⟩
theorem lw_p60 : lw_okq (⟨"FareLimitsModel", "comes", "()V"⟩, 29) := ⟨⟨by decide +kernel, by decide +kernel⟩, List.mem_of_getElem? (i := 1085) (by decide +kernel), List.mem_of_getElem? (i := 1523) (by decide +kernel), List.mem_of_getElem? (i := 1524) (by decide +kernel)⟩
theorem lw_p61 : lw_okq (⟨"FareLimitsModel", "goes", "(I)I"⟩, 29) := ⟨⟨by decide +kernel, by decide +kernel⟩, List.mem_of_getElem? (i := 1085) (by decide +kernel), List.mem_of_getElem? (i := 1536) (by decide +kernel), List.mem_of_getElem? (i := 1537) (by decide +kernel)⟩
theorem lw_p62 : lw_okq (⟨"FareLimitsModel", "wrongSign", "()I"⟩, 29) := ⟨⟨by decide +kernel, by decide +kernel⟩, List.mem_of_getElem? (i := 1085) (by decide +kernel), List.mem_of_getElem? (i := 1540) (by decide +kernel), List.mem_of_getElem? (i := 1541) (by decide +kernel)⟩
theorem lw_p63 : lw_okq (⟨"FareLimitsModel", "behind", "(I)I"⟩, 29) := ⟨⟨by decide +kernel, by decide +kernel⟩, List.mem_of_getElem? (i := 1085) (by decide +kernel), List.mem_of_getElem? (i := 1544) (by decide +kernel), List.mem_of_getElem? (i := 1545) (by decide +kernel)⟩
def lw_privs_4 : List (MethodName × Nat) := [(⟨"FareLimitsModel", "costOf", "(I)F"⟩, 29), (⟨"FareLimitsModel", "wanted", "(I)I"⟩, 29), (⟨"FareLimitsModel", "letters", "(I)I"⟩, 29), (⟨"FareLimitsModel", "isIn", "(I)Z"⟩, 29), (⟨"FareLimitsModel", "readRoute", "()V"⟩, 29), (⟨"FareLimitsModel", "wrong", "(I)V"⟩, 29), (⟨"FareLimitsModel", "name", "()V"⟩, 29), (⟨"FareLimitsModel", "isSign", "(II)Z"⟩, 29), (⟨"FareLimitsModel", "by", "(I)I"⟩, 29), (⟨"FareLimitsModel", "needs", "(I)V"⟩, 29), (⟨"FareLimitsModel", "takes", "(I)Z"⟩, 29), (⟨"FareLimitsModel", "number", "(II)I"⟩, 29), (⟨"FareLimitsModel", "comes", "()V"⟩, 29), (⟨"FareLimitsModel", "goes", "(I)I"⟩, 29), (⟨"FareLimitsModel", "wrongSign", "()I"⟩, 29), (⟨"FareLimitsModel", "behind", "(I)I"⟩, 29)]
theorem lw_r4 : ∀ q ∈ lw_privs_4, lw_okq q := List.forall_mem_cons.mpr ⟨lw_p48, List.forall_mem_cons.mpr ⟨lw_p49, List.forall_mem_cons.mpr ⟨lw_p50, List.forall_mem_cons.mpr ⟨lw_p51, List.forall_mem_cons.mpr ⟨lw_p52, List.forall_mem_cons.mpr ⟨lw_p53, List.forall_mem_cons.mpr ⟨lw_p54, List.forall_mem_cons.mpr ⟨lw_p55, List.forall_mem_cons.mpr ⟨lw_p56, List.forall_mem_cons.mpr ⟨lw_p57, List.forall_mem_cons.mpr ⟨lw_p58, List.forall_mem_cons.mpr ⟨lw_p59, List.forall_mem_cons.mpr ⟨lw_p60, List.forall_mem_cons.mpr ⟨lw_p61, List.forall_mem_cons.mpr ⟨lw_p62, List.forall_mem_cons.mpr ⟨lw_p63, fun _ h => absurd h List.not_mem_nil⟩⟩⟩⟩⟩⟩⟩⟩⟩⟩⟩⟩⟩⟩⟩⟩
theorem lw_p64 : lw_okq (⟨"FareLimitsModel", "writes", "(I)V"⟩, 29) := ⟨⟨by decide +kernel, by decide +kernel⟩, List.mem_of_getElem? (i := 1085) (by decide +kernel), List.mem_of_getElem? (i := 1556) (by decide +kernel), List.mem_of_getElem? (i := 1557) (by decide +kernel)⟩
theorem lw_p65 : lw_okq (⟨"FareLimitsModel", "writesNumber", "(I)V"⟩, 29) := ⟨⟨by decide +kernel, by decide +kernel⟩, List.mem_of_getElem? (i := 1085) (by decide +kernel), List.mem_of_getElem? (i := 1560) (by decide +kernel), List.mem_of_getElem? (i := 1561) (by decide +kernel)⟩
theorem lw_p66 : lw_okq (⟨"FareLimitsModel", "unlike", "()I"⟩, 29) := ⟨⟨by decide +kernel, by decide +kernel⟩, List.mem_of_getElem? (i := 1085) (by decide +kernel), List.mem_of_getElem? (i := 1576) (by decide +kernel), List.mem_of_getElem? (i := 1577) (by decide +kernel)⟩
theorem lw_p67 : lw_okq (⟨"FareLimitsModel", "greatest", "()I"⟩, 29) := ⟨⟨by decide +kernel, by decide +kernel⟩, List.mem_of_getElem? (i := 1085) (by decide +kernel), List.mem_of_getElem? (i := 1580) (by decide +kernel), List.mem_of_getElem? (i := 1581) (by decide +kernel)⟩
theorem lw_p68 : lw_okq (⟨"FareLimitsModel", "whyNot", "(II)I"⟩, 29) := ⟨⟨by decide +kernel, by decide +kernel⟩, List.mem_of_getElem? (i := 1085) (by decide +kernel), List.mem_of_getElem? (i := 1595) (by decide +kernel), List.mem_of_getElem? (i := 1596) (by decide +kernel)⟩
def lw_privs_5 : List (MethodName × Nat) := [(⟨"FareLimitsModel", "writes", "(I)V"⟩, 29), (⟨"FareLimitsModel", "writesNumber", "(I)V"⟩, 29), (⟨"FareLimitsModel", "unlike", "()I"⟩, 29), (⟨"FareLimitsModel", "greatest", "()I"⟩, 29), (⟨"FareLimitsModel", "whyNot", "(II)I"⟩, 29)]
theorem lw_r5 : ∀ q ∈ lw_privs_5, lw_okq q := List.forall_mem_cons.mpr ⟨lw_p64, List.forall_mem_cons.mpr ⟨lw_p65, List.forall_mem_cons.mpr ⟨lw_p66, List.forall_mem_cons.mpr ⟨lw_p67, List.forall_mem_cons.mpr ⟨lw_p68, fun _ h => absurd h List.not_mem_nil⟩⟩⟩⟩⟩
def lw_privs : List (MethodName × Nat) := lw_privs_1 ++ (lw_privs_2 ++ (lw_privs_3 ++ (lw_privs_4 ++ (lw_privs_5))))
def lw_tbl : List Cond := k2_sels lw_privs ++ tables_1
theorem lw_privs_ok : ∀ q ∈ lw_privs, lw_okq q := by
  show ∀ q ∈ lw_privs_1 ++ (lw_privs_2 ++ (lw_privs_3 ++ (lw_privs_4 ++ (lw_privs_5)))), lw_okq q
  exact List.forall_mem_append.mpr ⟨lw_r1, List.forall_mem_append.mpr ⟨lw_r2, List.forall_mem_append.mpr ⟨lw_r3, List.forall_mem_append.mpr ⟨lw_r4, lw_r5⟩⟩⟩⟩
/-- the streams that the claim lets the run draw from -/
abbrev lw_cs : List Choice := [Jvm.Choice.named "NaN.bits"]
theorem lw_bits : nanBits ∈ lw_cs := by first | decide | exact List.mem_cons_self | simp [lw_cs, nanBits]

def RX0 : String := "FareLimits$Chances"
def TX0 : u_T := fun k => match k with
  | 0 => ("FareLimits$Chances", "plan", "LFareLimits$Plan;", true)
  | _ => ("FareLimits$Chances", "row", "[D", true)
def tyX0 : Nat → FieldType := fun k => match k with
  | 0 => .object "FareLimits$Plan"
  | _ => .array .double
abbrev wsX00 : List Cond := u_ws RX0 TX0 2
theorem nmX0 : ∀ a, a < 2 → ∀ b, b < 2 → a ≠ b → (TX0 a).2.1 ≠ (TX0 b).2.1 := by decide +kernel
theorem tyX0_ok : ∀ k, k < 2 → parseFieldDescriptor (TX0 k).2.2.1 = some (tyX0 k) := by decide +kernel
abbrev cX0_init : ByteArray := prog_2_method_1_code
def yX0_init : MethodName := ⟨RX0, "<init>", "(LFareLimits$Plan;)V"⟩
abbrev cX0_ofShowing : ByteArray := prog_2_method_2_code
def yX0_ofShowing : MethodName := ⟨RX0, "ofShowing", "(II)[D"⟩
abbrev cX0_ofAsking : ByteArray := prog_2_method_3_code
def yX0_ofAsking : MethodName := ⟨RX0, "ofAsking", "(II)[D"⟩
abbrev cX0_begin : ByteArray := prog_2_method_4_code
def yX0_begin : MethodName := ⟨RX0, "begin", "()V"⟩
abbrev cX0_oneMore : ByteArray := prog_2_method_5_code
def yX0_oneMore : MethodName := ⟨RX0, "oneMore", "(IDD)V"⟩
abbrev cX0_expectedAbove : ByteArray := prog_2_method_6_code
def yX0_expectedAbove : MethodName := ⟨RX0, "expectedAbove", "(II)D"⟩
abbrev cX0_takings : ByteArray := prog_2_method_7_code
def yX0_takings : MethodName := ⟨RX0, "takings", "(II)D"⟩
abbrev cX0_bestBooked : ByteArray := prog_2_method_8_code
def yX0_bestBooked : MethodName := ⟨RX0, "bestBooked", "(II)I"⟩
def RX1 : String := "FareLimits$Day"
def TX1 : u_T := fun k => match k with
  | 0 => ("FareLimits$Day", "plan", "LFareLimits$Plan;", true)
  | 1 => ("FareLimits$Day", "worths", "LFareLimits$Worths;", true)
  | 2 => ("FareLimits$Day", "pricesAsked", "[I", true)
  | 3 => ("FareLimits$Day", "pricesHad", "[I", true)
  | 4 => ("FareLimits$Day", "left", "I", false)
  | 5 => ("FareLimits$Day", "asked", "I", false)
  | 6 => ("FareLimits$Day", "count", "I", false)
  | 7 => ("FareLimits$Day", "prices", "I", false)
  | _ => ("FareLimits$Day", "places", "I", false)
def tyX1 : Nat → FieldType := fun k => match k with
  | 0 => .object "FareLimits$Plan"
  | 1 => .object "FareLimits$Worths"
  | 2 => .array .int
  | 3 => .array .int
  | 4 => .int
  | 5 => .int
  | 6 => .int
  | 7 => .int
  | _ => .int
abbrev wsX10 : List Cond := u_ws RX1 TX1 9
theorem nmX1 : ∀ a, a < 9 → ∀ b, b < 9 → a ≠ b → (TX1 a).2.1 ≠ (TX1 b).2.1 := by decide +kernel
theorem tyX1_ok : ∀ k, k < 9 → parseFieldDescriptor (TX1 k).2.2.1 = some (tyX1 k) := by decide +kernel
abbrev cX1_init : ByteArray := prog_3_method_1_code
def yX1_init : MethodName := ⟨RX1, "<init>", "(LFareLimits$Plan;LFareLimits$Worths;)V"⟩
abbrev cX1_begin : ByteArray := prog_3_method_2_code
def yX1_begin : MethodName := ⟨RX1, "begin", "()V"⟩
abbrev cX1_ask : ByteArray := prog_3_method_3_code
def yX1_ask : MethodName := ⟨RX1, "ask", "(IIII)V"⟩
abbrev cX1_handGives : ByteArray := prog_3_method_4_code
def yX1_handGives : MethodName := ⟨RX1, "handGives", "(I)Z"⟩
abbrev cX1_draw : ByteArray := prog_3_method_5_code
def yX1_draw : MethodName := ⟨RX1, "draw", "(II)V"⟩
abbrev cX1_fareDrawn : ByteArray := prog_3_method_6_code
def yX1_fareDrawn : MethodName := ⟨RX1, "fareDrawn", "(II)I"⟩
abbrev cX1_pricesBehind : ByteArray := prog_3_method_7_code
def yX1_pricesBehind : MethodName := ⟨RX1, "pricesBehind", "()I"⟩
def RX2 : String := "FareLimits$Fare"
def TX2 : u_T := fun k => match k with
  | 0 => ("FareLimits$Fare", "kind", "LFareLimits$Kind;", false)
  | 1 => ("FareLimits$Fare", "price", "I", false)
  | 2 => ("FareLimits$Fare", "hand", "I", false)
  | _ => ("FareLimits$Fare", "odds", "[I", true)
def tyX2 : Nat → FieldType := fun k => match k with
  | 0 => .object "FareLimits$Kind"
  | 1 => .int
  | 2 => .int
  | _ => .array .int
abbrev wsX20 : List Cond := u_ws RX2 TX2 4
theorem nmX2 : ∀ a, a < 4 → ∀ b, b < 4 → a ≠ b → (TX2 a).2.1 ≠ (TX2 b).2.1 := by decide +kernel
theorem tyX2_ok : ∀ k, k < 4 → parseFieldDescriptor (TX2 k).2.2.1 = some (tyX2 k) := by decide +kernel
abbrev cX2_init : ByteArray := prog_4_method_1_code
def yX2_init : MethodName := ⟨RX2, "<init>", "()V"⟩
abbrev cX2_begin : ByteArray := prog_4_method_2_code
def yX2_begin : MethodName := ⟨RX2, "begin", "(LFareLimits$Kind;I)V"⟩
abbrev cX2_become : ByteArray := prog_4_method_3_code
def yX2_become : MethodName := ⟨RX2, "become", "(LFareLimits$Fare;)V"⟩
def RX3 : String := "FareLimits$Kind"
def TX3 : u_T := fun k => match k with
  | _ => ("", "", "", false)
def tyX3 : Nat → FieldType := fun k => match k with
  | _ => .int
abbrev wsX30 : List Cond := u_ws RX3 TX3 0
theorem nmX3 : ∀ a, a < 0 → ∀ b, b < 0 → a ≠ b → (TX3 a).2.1 ≠ (TX3 b).2.1 := by decide +kernel
theorem tyX3_ok : ∀ k, k < 0 → parseFieldDescriptor (TX3 k).2.2.1 = some (tyX3 k) := by decide +kernel
abbrev cX3_isOf : ByteArray := prog_5_method_4_code
def yX3_isOf : MethodName := ⟨RX3, "isOf", "(LFareLimits$Kind;)Z"⟩
def RX4 : String := "FareLimits$Network"
def TX4 : u_T := fun k => match k with
  | 0 => ("FareLimits$Network", "lengths", "[I", true)
  | 1 => ("FareLimits$Network", "frees", "[I", true)
  | 2 => ("FareLimits$Network", "routes", "[LFareLimits$Route;", true)
  | _ => ("FareLimits$Network", "count", "I", false)
def tyX4 : Nat → FieldType := fun k => match k with
  | 0 => .array .int
  | 1 => .array .int
  | 2 => .array (.object "FareLimits$Route")
  | _ => .int
abbrev wsX40 : List Cond := u_ws RX4 TX4 4
theorem nmX4 : ∀ a, a < 4 → ∀ b, b < 4 → a ≠ b → (TX4 a).2.1 ≠ (TX4 b).2.1 := by decide +kernel
theorem tyX4_ok : ∀ k, k < 4 → parseFieldDescriptor (TX4 k).2.2.1 = some (tyX4 k) := by decide +kernel
abbrev cX4_init : ByteArray := prog_6_method_1_code
def yX4_init : MethodName := ⟨RX4, "<init>", "()V"⟩
abbrev cX4_become : ByteArray := prog_6_method_2_code
def yX4_become : MethodName := ⟨RX4, "become", "(LFareLimits$Network;)V"⟩
abbrev cX4_placeOf : ByteArray := prog_6_method_3_code
def yX4_placeOf : MethodName := ⟨RX4, "placeOf", "(I)I"⟩
abbrev cX4_add : ByteArray := prog_6_method_4_code
def yX4_add : MethodName := ⟨RX4, "add", "(LFareLimits$Route;)V"⟩
abbrev cX4_remove : ByteArray := prog_6_method_5_code
def yX4_remove : MethodName := ⟨RX4, "remove", "(I)V"⟩
abbrev cX4_partOf : ByteArray := prog_6_method_6_code
def yX4_partOf : MethodName := ⟨RX4, "partOf", "(LFareLimits$Route;I)F"⟩
abbrev cX4_costOf : ByteArray := prog_6_method_7_code
def yX4_costOf : MethodName := ⟨RX4, "costOf", "(I)F"⟩
abbrev cX4_dearestBut : ByteArray := prog_6_method_8_code
def yX4_dearestBut : MethodName := ⟨RX4, "dearestBut", "(II)I"⟩
abbrev cX4_letsIn : ByteArray := prog_6_method_9_code
def yX4_letsIn : MethodName := ⟨RX4, "letsIn", "(LFareLimits$Route;)Z"⟩
abbrev cX4_spellOn : ByteArray := prog_6_method_10_code
def yX4_spellOn : MethodName := ⟨RX4, "spellOn", "(Ljava/lang/StringBuilder;)V"⟩
abbrev cX4_spellRoute : ByteArray := prog_6_method_11_code
def yX4_spellRoute : MethodName := ⟨RX4, "spellRoute", "(Ljava/lang/StringBuilder;LFareLimits$Route;)V"⟩
def RX5 : String := "FareLimits$Plan"
def TX5 : u_T := fun k => match k with
  | 0 => ("FareLimits$Plan", "fares", "[LFareLimits$Fare;", true)
  | 1 => ("FareLimits$Plan", "fareCount", "I", false)
  | 2 => ("FareLimits$Plan", "rules", "[I", true)
  | 3 => ("FareLimits$Plan", "network", "LFareLimits$Network;", true)
  | _ => ("FareLimits$Plan", "seed", "I", false)
def tyX5 : Nat → FieldType := fun k => match k with
  | 0 => .array (.object "FareLimits$Fare")
  | 1 => .int
  | 2 => .array .int
  | 3 => .object "FareLimits$Network"
  | _ => .int
abbrev wsX50 : List Cond := u_ws RX5 TX5 5
theorem nmX5 : ∀ a, a < 5 → ∀ b, b < 5 → a ≠ b → (TX5 a).2.1 ≠ (TX5 b).2.1 := by decide +kernel
theorem tyX5_ok : ∀ k, k < 5 → parseFieldDescriptor (TX5 k).2.2.1 = some (tyX5 k) := by decide +kernel
abbrev cX5_init : ByteArray := prog_7_method_1_code
def yX5_init : MethodName := ⟨RX5, "<init>", "()V"⟩
abbrev cX5_become : ByteArray := prog_7_method_2_code
def yX5_become : MethodName := ⟨RX5, "become", "(LFareLimits$Plan;)V"⟩
abbrev cX5_hasFare : ByteArray := prog_7_method_3_code
def yX5_hasFare : MethodName := ⟨RX5, "hasFare", "(I)Z"⟩
abbrev cX5_oddsTogether : ByteArray := prog_7_method_4_code
def yX5_oddsTogether : MethodName := ⟨RX5, "oddsTogether", "(I)I"⟩
abbrev cX5_unlikePrices : ByteArray := prog_7_method_5_code
def yX5_unlikePrices : MethodName := ⟨RX5, "unlikePrices", "()I"⟩
abbrev cX5_greatestPrice : ByteArray := prog_7_method_6_code
def yX5_greatestPrice : MethodName := ⟨RX5, "greatestPrice", "()I"⟩
abbrev cX5_showing : ByteArray := prog_7_method_7_code
def yX5_showing : MethodName := ⟨RX5, "showing", "(I)D"⟩
abbrev cX5_netBy : ByteArray := prog_7_method_8_code
def yX5_netBy : MethodName := ⟨RX5, "netBy", "(ID)D"⟩
def RX6 : String := "FareLimits$Route"
def TX6 : u_T := fun k => match k with
  | 0 => ("FareLimits$Route", "name", "I", true)
  | 1 => ("FareLimits$Route", "legs", "I", true)
  | 2 => ("FareLimits$Route", "price", "I", true)
  | _ => ("FareLimits$Route", "wanted", "I", true)
def tyX6 : Nat → FieldType := fun k => match k with
  | 0 => .int
  | 1 => .int
  | 2 => .int
  | _ => .int
abbrev wsX60 : List Cond := u_ws RX6 TX6 4
theorem nmX6 : ∀ a, a < 4 → ∀ b, b < 4 → a ≠ b → (TX6 a).2.1 ≠ (TX6 b).2.1 := by decide +kernel
theorem tyX6_ok : ∀ k, k < 4 → parseFieldDescriptor (TX6 k).2.2.1 = some (tyX6 k) := by decide +kernel
abbrev cX6_init : ByteArray := prog_8_method_1_code
def yX6_init : MethodName := ⟨RX6, "<init>", "(IIII)V"⟩
abbrev cX6_withLetter : ByteArray := prog_8_method_2_code
def yX6_withLetter : MethodName := ⟨RX6, "withLetter", "(III)I"⟩
abbrev cX6_letter : ByteArray := prog_8_method_3_code
def yX6_letter : MethodName := ⟨RX6, "letter", "(I)I"⟩
abbrev cX6_letters : ByteArray := prog_8_method_4_code
def yX6_letters : MethodName := ⟨RX6, "letters", "()I"⟩
abbrev cX6_goesOver : ByteArray := prog_8_method_5_code
def yX6_goesOver : MethodName := ⟨RX6, "goesOver", "(I)Z"⟩
def RX7 : String := "FareLimits$Tape"
def TX7 : u_T := fun k => match k with
  | 0 => ("FareLimits$Tape", "bytes", "[I", true)
  | 1 => ("FareLimits$Tape", "size", "I", false)
  | 2 => ("FareLimits$Tape", "read", "[LFareLimits$Route;", true)
  | 3 => ("FareLimits$Tape", "readCount", "I", false)
  | 4 => ("FareLimits$Tape", "at", "I", false)
  | 5 => ("FareLimits$Tape", "name", "I", false)
  | 6 => ("FareLimits$Tape", "legs", "I", false)
  | 7 => ("FareLimits$Tape", "price", "I", false)
  | _ => ("FareLimits$Tape", "wanted", "I", false)
def tyX7 : Nat → FieldType := fun k => match k with
  | 0 => .array .int
  | 1 => .int
  | 2 => .array (.object "FareLimits$Route")
  | 3 => .int
  | 4 => .int
  | 5 => .int
  | 6 => .int
  | 7 => .int
  | _ => .int
abbrev wsX70 : List Cond := u_ws RX7 TX7 9
theorem nmX7 : ∀ a, a < 9 → ∀ b, b < 9 → a ≠ b → (TX7 a).2.1 ≠ (TX7 b).2.1 := by decide +kernel
theorem tyX7_ok : ∀ k, k < 9 → parseFieldDescriptor (TX7 k).2.2.1 = some (tyX7 k) := by decide +kernel
abbrev cX7_init : ByteArray := prog_9_method_1_code
def yX7_init : MethodName := ⟨RX7, "<init>", "()V"⟩
abbrev cX7_takeUp : ByteArray := prog_9_method_2_code
def yX7_takeUp : MethodName := ⟨RX7, "takeUp", "(I)Z"⟩
abbrev cX7_wipe : ByteArray := prog_9_method_3_code
def yX7_wipe : MethodName := ⟨RX7, "wipe", "()V"⟩
abbrev cX7_byteAt : ByteArray := prog_9_method_4_code
def yX7_byteAt : MethodName := ⟨RX7, "byteAt", "(I)I"⟩
abbrev cX7_fareAsked : ByteArray := prog_9_method_5_code
def yX7_fareAsked : MethodName := ⟨RX7, "fareAsked", "(I)I"⟩
abbrev cX7_faultAsRequests : ByteArray := prog_9_method_6_code
def yX7_faultAsRequests : MethodName := ⟨RX7, "faultAsRequests", "(I)I"⟩
abbrev cX7_asName : ByteArray := prog_9_method_7_code
def yX7_asName : MethodName := ⟨RX7, "asName", "()I"⟩
abbrev cX7_faultAsBook : ByteArray := prog_9_method_8_code
def yX7_faultAsBook : MethodName := ⟨RX7, "faultAsBook", "(LFareLimits$Network;)I"⟩
abbrev cX7_faultOfPart : ByteArray := prog_9_method_9_code
def yX7_faultOfPart : MethodName := ⟨RX7, "faultOfPart", "(LFareLimits$Network;)I"⟩
abbrev cX7_faultOfSign : ByteArray := prog_9_method_10_code
def yX7_faultOfSign : MethodName := ⟨RX7, "faultOfSign", "(I)I"⟩
abbrev cX7_faultOfName : ByteArray := prog_9_method_11_code
def yX7_faultOfName : MethodName := ⟨RX7, "faultOfName", "(LFareLimits$Network;)I"⟩
abbrev cX7_isRead : ByteArray := prog_9_method_12_code
def yX7_isRead : MethodName := ⟨RX7, "isRead", "(I)Z"⟩
abbrev cX7_faultOfLegs : ByteArray := prog_9_method_13_code
def yX7_faultOfLegs : MethodName := ⟨RX7, "faultOfLegs", "()I"⟩
abbrev cX7_faultOfPrice : ByteArray := prog_9_method_14_code
def yX7_faultOfPrice : MethodName := ⟨RX7, "faultOfPrice", "()I"⟩
abbrev cX7_faultOfWanted : ByteArray := prog_9_method_15_code
def yX7_faultOfWanted : MethodName := ⟨RX7, "faultOfWanted", "()I"⟩
abbrev cX7_numberOf : ByteArray := prog_9_method_16_code
def yX7_numberOf : MethodName := ⟨RX7, "numberOf", "(I)I"⟩
def RX8 : String := "FareLimits$Tray"
def TX8 : u_T := fun k => match k with
  | 0 => ("FareLimits$Tray", "kind", "LFareLimits$Kind;", false)
  | 1 => ("FareLimits$Tray", "size", "I", false)
  | _ => ("FareLimits$Tray", "places", "[I", true)
def tyX8 : Nat → FieldType := fun k => match k with
  | 0 => .object "FareLimits$Kind"
  | 1 => .int
  | _ => .array .int
abbrev wsX80 : List Cond := u_ws RX8 TX8 3
theorem nmX8 : ∀ a, a < 3 → ∀ b, b < 3 → a ≠ b → (TX8 a).2.1 ≠ (TX8 b).2.1 := by decide +kernel
theorem tyX8_ok : ∀ k, k < 3 → parseFieldDescriptor (TX8 k).2.2.1 = some (tyX8 k) := by decide +kernel
abbrev cX8_init : ByteArray := prog_10_method_1_code
def yX8_init : MethodName := ⟨RX8, "<init>", "()V"⟩
abbrev cX8_begin : ByteArray := prog_10_method_2_code
def yX8_begin : MethodName := ⟨RX8, "begin", "(LFareLimits$Kind;I)V"⟩
abbrev cX8_become : ByteArray := prog_10_method_3_code
def yX8_become : MethodName := ⟨RX8, "become", "(LFareLimits$Tray;)V"⟩
def RX9 : String := "FareLimits$Whole"
def TX9 : u_T := fun k => match k with
  | 0 => ("FareLimits$Whole", "plan", "LFareLimits$Plan;", true)
  | _ => ("FareLimits$Whole", "row", "[J", true)
def tyX9 : Nat → FieldType := fun k => match k with
  | 0 => .object "FareLimits$Plan"
  | _ => .array .long
abbrev wsX90 : List Cond := u_ws RX9 TX9 2
theorem nmX9 : ∀ a, a < 2 → ∀ b, b < 2 → a ≠ b → (TX9 a).2.1 ≠ (TX9 b).2.1 := by decide +kernel
theorem tyX9_ok : ∀ k, k < 2 → parseFieldDescriptor (TX9 k).2.2.1 = some (tyX9 k) := by decide +kernel
abbrev cX9_init : ByteArray := prog_11_method_1_code
def yX9_init : MethodName := ⟨RX9, "<init>", "(LFareLimits$Plan;)V"⟩
abbrev cX9_times : ByteArray := prog_11_method_2_code
def yX9_times : MethodName := ⟨RX9, "times", "(JJ)J"⟩
abbrev cX9_plus : ByteArray := prog_11_method_3_code
def yX9_plus : MethodName := ⟨RX9, "plus", "(JJ)J"⟩
abbrev cX9_power : ByteArray := prog_11_method_4_code
def yX9_power : MethodName := ⟨RX9, "power", "(JI)J"⟩
abbrev cX9_grossOf : ByteArray := prog_11_method_5_code
def yX9_grossOf : MethodName := ⟨RX9, "grossOf", "(II)J"⟩
abbrev cX9_nextGross : ByteArray := prog_11_method_6_code
def yX9_nextGross : MethodName := ⟨RX9, "nextGross", "(IIJ)J"⟩
abbrev cX9_waysOf : ByteArray := prog_11_method_7_code
def yX9_waysOf : MethodName := ⟨RX9, "waysOf", "(III)J"⟩
abbrev cX9_setsOf : ByteArray := prog_11_method_8_code
def yX9_setsOf : MethodName := ⟨RX9, "setsOf", "(II)J"⟩
abbrev cX9_bitsOfDouble : ByteArray := prog_11_method_9_code
def yX9_bitsOfDouble : MethodName := ⟨RX9, "bitsOfDouble", "(D)J"⟩
abbrev cX9_bitsOfFloat : ByteArray := prog_11_method_10_code
def yX9_bitsOfFloat : MethodName := ⟨RX9, "bitsOfFloat", "(F)I"⟩
def RX10 : String := "FareLimits$Worths"
def TX10 : u_T := fun k => match k with
  | 0 => ("FareLimits$Worths", "plan", "LFareLimits$Plan;", true)
  | 1 => ("FareLimits$Worths", "rows", "[[D", true)
  | 2 => ("FareLimits$Worths", "nets", "[D", true)
  | _ => ("FareLimits$Worths", "made", "I", false)
def tyX10 : Nat → FieldType := fun k => match k with
  | 0 => .object "FareLimits$Plan"
  | 1 => .array (.array .double)
  | 2 => .array .double
  | _ => .int
abbrev wsX100 : List Cond := u_ws RX10 TX10 4
theorem nmX10 : ∀ a, a < 4 → ∀ b, b < 4 → a ≠ b → (TX10 a).2.1 ≠ (TX10 b).2.1 := by decide +kernel
theorem tyX10_ok : ∀ k, k < 4 → parseFieldDescriptor (TX10 k).2.2.1 = some (tyX10 k) := by decide +kernel
abbrev cX10_init : ByteArray := prog_12_method_1_code
def yX10_init : MethodName := ⟨RX10, "<init>", "(LFareLimits$Plan;)V"⟩
abbrev cX10_forget : ByteArray := prog_12_method_2_code
def yX10_forget : MethodName := ⟨RX10, "forget", "()V"⟩
abbrev cX10_row : ByteArray := prog_12_method_3_code
def yX10_row : MethodName := ⟨RX10, "row", "(I)[D"⟩
abbrev cX10_make : ByteArray := prog_12_method_4_code
def yX10_make : MethodName := ⟨RX10, "make", "(I)V"⟩
abbrev cX10_worthOf : ByteArray := prog_12_method_5_code
def yX10_worthOf : MethodName := ⟨RX10, "worthOf", "([DII)D"⟩
abbrev cX10_takes : ByteArray := prog_12_method_6_code
def yX10_takes : MethodName := ⟨RX10, "takes", "(III)Z"⟩
abbrev cX10_keptFrom : ByteArray := prog_12_method_7_code
def yX10_keptFrom : MethodName := ⟨RX10, "keptFrom", "(II)I"⟩
def RX11 : String := "FareLimits"
def TX11 : u_T := fun k => match k with
  | 0 => ("FareLimits", "plan", "LFareLimits$Plan;", true)
  | 1 => ("FareLimits", "picture", "LFareLimits$Plan;", true)
  | 2 => ("FareLimits", "pictured", "Z", false)
  | 3 => ("FareLimits", "worths", "LFareLimits$Worths;", true)
  | 4 => ("FareLimits", "whole", "LFareLimits$Whole;", true)
  | 5 => ("FareLimits", "chances", "LFareLimits$Chances;", true)
  | 6 => ("FareLimits", "tape", "LFareLimits$Tape;", true)
  | 7 => ("FareLimits", "day", "LFareLimits$Day;", true)
  | 8 => ("FareLimits", "page", "Ljava/lang/StringBuilder;", true)
  | 9 => ("FareLimits", "trays", "[LFareLimits$Tray;", true)
  | 10 => ("FareLimits", "lists", "[[J", true)
  | _ => ("FareLimits", "listSizes", "[I", true)
def tyX11 : Nat → FieldType := fun k => match k with
  | 0 => .object "FareLimits$Plan"
  | 1 => .object "FareLimits$Plan"
  | 2 => .boolean
  | 3 => .object "FareLimits$Worths"
  | 4 => .object "FareLimits$Whole"
  | 5 => .object "FareLimits$Chances"
  | 6 => .object "FareLimits$Tape"
  | 7 => .object "FareLimits$Day"
  | 8 => .object "java/lang/StringBuilder"
  | 9 => .array (.object "FareLimits$Tray")
  | 10 => .array (.array .long)
  | _ => .array .int
abbrev wsX110 : List Cond := u_ws RX11 TX11 12
theorem nmX11 : ∀ a, a < 12 → ∀ b, b < 12 → a ≠ b → (TX11 a).2.1 ≠ (TX11 b).2.1 := by decide +kernel
theorem tyX11_ok : ∀ k, k < 12 → parseFieldDescriptor (TX11 k).2.2.1 = some (tyX11 k) := by decide +kernel
abbrev cX11_init : ByteArray := prog_1_method_1_code
def yX11_init : MethodName := ⟨RX11, "<init>", "()V"⟩
abbrev cX11_fare : ByteArray := prog_1_method_2_code
def yX11_fare : MethodName := ⟨RX11, "fare", "(II)I"⟩
abbrev cX11_of : ByteArray := prog_1_method_3_code
def yX11_of : MethodName := ⟨RX11, "of", "(II)I"⟩
abbrev cX11_odds : ByteArray := prog_1_method_4_code
def yX11_odds : MethodName := ⟨RX11, "odds", "(III)I"⟩
abbrev cX11_drop : ByteArray := prog_1_method_5_code
def yX11_drop : MethodName := ⟨RX11, "drop", "()I"⟩
abbrev cX11_rule : ByteArray := prog_1_method_6_code
def yX11_rule : MethodName := ⟨RX11, "rule", "(II)I"⟩
abbrev cX11_hand : ByteArray := prog_1_method_7_code
def yX11_hand : MethodName := ⟨RX11, "hand", "(II)I"⟩
abbrev cX11_shows : ByteArray := prog_1_method_8_code
def yX11_shows : MethodName := ⟨RX11, "shows", "(I)J"⟩
abbrev cX11_net : ByteArray := prog_1_method_9_code
def yX11_net : MethodName := ⟨RX11, "net", "(II)J"⟩
abbrev cX11_netCut : ByteArray := prog_1_method_10_code
def yX11_netCut : MethodName := ⟨RX11, "netCut", "(II)I"⟩
abbrev cX11_worth : ByteArray := prog_1_method_11_code
def yX11_worth : MethodName := ⟨RX11, "worth", "(II)J"⟩
abbrev cX11_worthShort : ByteArray := prog_1_method_12_code
def yX11_worthShort : MethodName := ⟨RX11, "worthShort", "(II)I"⟩
abbrev cX11_gross : ByteArray := prog_1_method_13_code
def yX11_gross : MethodName := ⟨RX11, "gross", "(II)J"⟩
abbrev cX11_taken : ByteArray := prog_1_method_14_code
def yX11_taken : MethodName := ⟨RX11, "taken", "(III)I"⟩
abbrev cX11_kept : ByteArray := prog_1_method_15_code
def yX11_kept : MethodName := ⟨RX11, "kept", "(II)I"⟩
abbrev cX11_limit : ByteArray := prog_1_method_16_code
def yX11_limit : MethodName := ⟨RX11, "limit", "(II)I"⟩
abbrev cX11_chance : ByteArray := prog_1_method_17_code
def yX11_chance : MethodName := ⟨RX11, "chance", "(III)J"⟩
abbrev cX11_turned : ByteArray := prog_1_method_18_code
def yX11_turned : MethodName := ⟨RX11, "turned", "(II)J"⟩
abbrev cX11_had : ByteArray := prog_1_method_19_code
def yX11_had : MethodName := ⟨RX11, "had", "(III)J"⟩
abbrev cX11_booked : ByteArray := prog_1_method_20_code
def yX11_booked : MethodName := ⟨RX11, "booked", "(II)I"⟩
abbrev cX11_ways : ByteArray := prog_1_method_21_code
def yX11_ways : MethodName := ⟨RX11, "ways", "(III)J"⟩
abbrev cX11_demand : ByteArray := prog_1_method_22_code
def yX11_demand : MethodName := ⟨RX11, "demand", "(III)J"⟩
abbrev cX11_spill : ByteArray := prog_1_method_23_code
def yX11_spill : MethodName := ⟨RX11, "spill", "(III)J"⟩
abbrev cX11_leg : ByteArray := prog_1_method_24_code
def yX11_leg : MethodName := ⟨RX11, "leg", "(III)I"⟩
abbrev cX11_feed : ByteArray := prog_1_method_25_code
def yX11_feed : MethodName := ⟨RX11, "feed", "(I)I"⟩
abbrev cX11_clear : ByteArray := prog_1_method_26_code
def yX11_clear : MethodName := ⟨RX11, "clear", "()I"⟩
abbrev cX11_book : ByteArray := prog_1_method_27_code
def yX11_book : MethodName := ⟨RX11, "book", "()I"⟩
abbrev cX11_ends : ByteArray := prog_1_method_28_code
def yX11_ends : MethodName := ⟨RX11, "ends", "()I"⟩
abbrev cX11_route : ByteArray := prog_1_method_29_code
def yX11_route : MethodName := ⟨RX11, "route", "(II)I"⟩
abbrev cX11_part : ByteArray := prog_1_method_30_code
def yX11_part : MethodName := ⟨RX11, "part", "(II)I"⟩
abbrev cX11_cost : ByteArray := prog_1_method_31_code
def yX11_cost : MethodName := ⟨RX11, "cost", "(I)I"⟩
abbrev cX11_spell : ByteArray := prog_1_method_32_code
def yX11_spell : MethodName := ⟨RX11, "spell", "()I"⟩
abbrev cX11_paper : ByteArray := prog_1_method_33_code
def yX11_paper : MethodName := ⟨RX11, "paper", "(I)I"⟩
abbrev cX11_replay : ByteArray := prog_1_method_34_code
def yX11_replay : MethodName := ⟨RX11, "replay", "(I)I"⟩
abbrev cX11_byHand : ByteArray := prog_1_method_35_code
def yX11_byHand : MethodName := ⟨RX11, "byHand", "(I)I"⟩
abbrev cX11_answerRequests : ByteArray := prog_1_method_36_code
def yX11_answerRequests : MethodName := ⟨RX11, "answerRequests", "(II)I"⟩
abbrev cX11_drawn : ByteArray := prog_1_method_37_code
def yX11_drawn : MethodName := ⟨RX11, "drawn", "(IIII)I"⟩
abbrev cX11_seed : ByteArray := prog_1_method_38_code
def yX11_seed : MethodName := ⟨RX11, "seed", "(I)I"⟩
abbrev cX11_tray : ByteArray := prog_1_method_39_code
def yX11_tray : MethodName := ⟨RX11, "tray", "(III)I"⟩
abbrev cX11_lays : ByteArray := prog_1_method_40_code
def yX11_lays : MethodName := ⟨RX11, "lays", "(III)I"⟩
abbrev cX11_laid : ByteArray := prog_1_method_41_code
def yX11_laid : MethodName := ⟨RX11, "laid", "(II)I"⟩
abbrev cX11_like : ByteArray := prog_1_method_42_code
def yX11_like : MethodName := ⟨RX11, "like", "(II)I"⟩
abbrev cX11_list : ByteArray := prog_1_method_43_code
def yX11_list : MethodName := ⟨RX11, "list", "(II)I"⟩
abbrev cX11_set : ByteArray := prog_1_method_44_code
def yX11_set : MethodName := ⟨RX11, "set", "(IIJ)I"⟩
abbrev cX11_get : ByteArray := prog_1_method_45_code
def yX11_get : MethodName := ⟨RX11, "get", "(II)J"⟩
abbrev cX11_judge : ByteArray := prog_1_method_46_code
def yX11_judge : MethodName := ⟨RX11, "judge", "(III)I"⟩
abbrev cX11_told : ByteArray := prog_1_method_47_code
def yX11_told : MethodName := ⟨RX11, "told", "(I)I"⟩
abbrev cX11_image : ByteArray := prog_1_method_48_code
def yX11_image : MethodName := ⟨RX11, "image", "()I"⟩
abbrev cX11_undo : ByteArray := prog_1_method_49_code
def yX11_undo : MethodName := ⟨RX11, "undo", "()I"⟩
abbrev cX11_within : ByteArray := prog_1_method_50_code
def yX11_within : MethodName := ⟨RX11, "within", "(II)Z"⟩
abbrev cX11_isStage : ByteArray := prog_1_method_51_code
def yX11_isStage : MethodName := ⟨RX11, "isStage", "(I)Z"⟩
abbrev cX11_phaseOf : ByteArray := prog_1_method_52_code
def yX11_phaseOf : MethodName := ⟨RX11, "phaseOf", "(I)I"⟩
def RX12 : String := "FareLimitsModel"
def TX12 : u_T := fun k => match k with
  | 0 => ("FareLimitsModel", "now", "[I", true)
  | 1 => ("FareLimitsModel", "kept", "[I", true)
  | 2 => ("FareLimitsModel", "hasImage", "Z", false)
  | 3 => ("FareLimitsModel", "taped", "I", false)
  | 4 => ("FareLimitsModel", "tape", "[I", true)
  | 5 => ("FareLimitsModel", "written", "I", false)
  | 6 => ("FareLimitsModel", "paper", "[I", true)
  | 7 => ("FareLimitsModel", "trayKind", "[I", true)
  | 8 => ("FareLimitsModel", "traySize", "[I", true)
  | 9 => ("FareLimitsModel", "laid", "[I", true)
  | 10 => ("FareLimitsModel", "listSize", "[I", true)
  | 11 => ("FareLimitsModel", "items", "[J", true)
  | 12 => ("FareLimitsModel", "worths", "[D", true)
  | 13 => ("FareLimitsModel", "chances", "[D", true)
  | 14 => ("FareLimitsModel", "fewer", "[D", true)
  | 15 => ("FareLimitsModel", "isOver", "Z", false)
  | 16 => ("FareLimitsModel", "grosses", "[J", true)
  | 17 => ("FareLimitsModel", "isGreat", "[Z", true)
  | 18 => ("FareLimitsModel", "sets", "[J", true)
  | 19 => ("FareLimitsModel", "had", "[I", true)
  | 20 => ("FareLimitsModel", "left", "I", false)
  | 21 => ("FareLimitsModel", "prices", "I", false)
  | 22 => ("FareLimitsModel", "askers", "I", false)
  | 23 => ("FareLimitsModel", "isGone", "[Z", true)
  | 24 => ("FareLimitsModel", "at", "I", false)
  | 25 => ("FareLimitsModel", "fault", "I", false)
  | 26 => ("FareLimitsModel", "read", "[I", true)
  | 27 => ("FareLimitsModel", "ahead", "[I", true)
  | _ => ("FareLimitsModel", "asked", "I", false)
def tyX12 : Nat → FieldType := fun k => match k with
  | 0 => .array .int
  | 1 => .array .int
  | 2 => .boolean
  | 3 => .int
  | 4 => .array .int
  | 5 => .int
  | 6 => .array .int
  | 7 => .array .int
  | 8 => .array .int
  | 9 => .array .int
  | 10 => .array .int
  | 11 => .array .long
  | 12 => .array .double
  | 13 => .array .double
  | 14 => .array .double
  | 15 => .boolean
  | 16 => .array .long
  | 17 => .array .boolean
  | 18 => .array .long
  | 19 => .array .int
  | 20 => .int
  | 21 => .int
  | 22 => .int
  | 23 => .array .boolean
  | 24 => .int
  | 25 => .int
  | 26 => .array .int
  | 27 => .array .int
  | _ => .int
abbrev wsX120 : List Cond := u_ws RX12 TX12 29
theorem nmX12 : ∀ a, a < 29 → ∀ b, b < 29 → a ≠ b → (TX12 a).2.1 ≠ (TX12 b).2.1 := by decide +kernel
theorem tyX12_ok : ∀ k, k < 29 → parseFieldDescriptor (TX12 k).2.2.1 = some (tyX12 k) := by decide +kernel
abbrev cX12_init : ByteArray := prog_14_method_1_code
def yX12_init : MethodName := ⟨RX12, "<init>", "()V"⟩
abbrev cX12_in : ByteArray := prog_14_method_2_code
def yX12_in : MethodName := ⟨RX12, "in", "(JJJ)Z"⟩
abbrev cX12_isFare : ByteArray := prog_14_method_3_code
def yX12_isFare : MethodName := ⟨RX12, "isFare", "(I)Z"⟩
abbrev cX12_isStage : ByteArray := prog_14_method_4_code
def yX12_isStage : MethodName := ⟨RX12, "isStage", "(I)Z"⟩
abbrev cX12_isSeat : ByteArray := prog_14_method_5_code
def yX12_isSeat : MethodName := ⟨RX12, "isSeat", "(I)Z"⟩
abbrev cX12_price : ByteArray := prog_14_method_6_code
def yX12_price : MethodName := ⟨RX12, "price", "(I)I"⟩
abbrev cX12_odds : ByteArray := prog_14_method_7_code
def yX12_odds : MethodName := ⟨RX12, "odds", "(II)I"⟩
abbrev cX12_fare : ByteArray := prog_14_method_8_code
def yX12_fare : MethodName := ⟨RX12, "fare", "(II)I"⟩
abbrev cX12_of : ByteArray := prog_14_method_9_code
def yX12_of : MethodName := ⟨RX12, "of", "(II)I"⟩
abbrev cX12_odds_ : ByteArray := prog_14_method_10_code
def yX12_odds_ : MethodName := ⟨RX12, "odds", "(III)I"⟩
abbrev cX12_drop : ByteArray := prog_14_method_11_code
def yX12_drop : MethodName := ⟨RX12, "drop", "()I"⟩
abbrev cX12_rule : ByteArray := prog_14_method_12_code
def yX12_rule : MethodName := ⟨RX12, "rule", "(II)I"⟩
abbrev cX12_showing : ByteArray := prog_14_method_13_code
def yX12_showing : MethodName := ⟨RX12, "showing", "(I)D"⟩
abbrev cX12_keeps : ByteArray := prog_14_method_14_code
def yX12_keeps : MethodName := ⟨RX12, "keeps", "(I)D"⟩
abbrev cX12_netOf : ByteArray := prog_14_method_15_code
def yX12_netOf : MethodName := ⟨RX12, "netOf", "(II)D"⟩
abbrev cX12_shows : ByteArray := prog_14_method_16_code
def yX12_shows : MethodName := ⟨RX12, "shows", "(I)J"⟩
abbrev cX12_net : ByteArray := prog_14_method_17_code
def yX12_net : MethodName := ⟨RX12, "net", "(II)J"⟩
abbrev cX12_netCut : ByteArray := prog_14_method_18_code
def yX12_netCut : MethodName := ⟨RX12, "netCut", "(II)I"⟩
abbrev cX12_worthOf : ByteArray := prog_14_method_19_code
def yX12_worthOf : MethodName := ⟨RX12, "worthOf", "(II)D"⟩
abbrev cX12_gain : ByteArray := prog_14_method_20_code
def yX12_gain : MethodName := ⟨RX12, "gain", "(III)D"⟩
abbrev cX12_reckons : ByteArray := prog_14_method_21_code
def yX12_reckons : MethodName := ⟨RX12, "reckons", "(I)V"⟩
abbrev cX12_worth : ByteArray := prog_14_method_22_code
def yX12_worth : MethodName := ⟨RX12, "worth", "(II)J"⟩
abbrev cX12_worthShort : ByteArray := prog_14_method_23_code
def yX12_worthShort : MethodName := ⟨RX12, "worthShort", "(II)I"⟩
abbrev cX12_times : ByteArray := prog_14_method_24_code
def yX12_times : MethodName := ⟨RX12, "times", "(JJ)J"⟩
abbrev cX12_plus : ByteArray := prog_14_method_25_code
def yX12_plus : MethodName := ⟨RX12, "plus", "(JJ)J"⟩
abbrev cX12_power : ByteArray := prog_14_method_26_code
def yX12_power : MethodName := ⟨RX12, "power", "(II)J"⟩
abbrev cX12_next : ByteArray := prog_14_method_27_code
def yX12_next : MethodName := ⟨RX12, "next", "(II)J"⟩
abbrev cX12_gross : ByteArray := prog_14_method_28_code
def yX12_gross : MethodName := ⟨RX12, "gross", "(II)J"⟩
abbrev cX12_isTaken : ByteArray := prog_14_method_29_code
def yX12_isTaken : MethodName := ⟨RX12, "isTaken", "(III)Z"⟩
abbrev cX12_isToGo : ByteArray := prog_14_method_30_code
def yX12_isToGo : MethodName := ⟨RX12, "isToGo", "(I)Z"⟩
abbrev cX12_taken : ByteArray := prog_14_method_31_code
def yX12_taken : MethodName := ⟨RX12, "taken", "(III)I"⟩
abbrev cX12_kept : ByteArray := prog_14_method_32_code
def yX12_kept : MethodName := ⟨RX12, "kept", "(II)I"⟩
abbrev cX12_limit : ByteArray := prog_14_method_33_code
def yX12_limit : MethodName := ⟨RX12, "limit", "(II)I"⟩
abbrev cX12_isBooked : ByteArray := prog_14_method_34_code
def yX12_isBooked : MethodName := ⟨RX12, "isBooked", "(I)Z"⟩
abbrev cX12_chances : ByteArray := prog_14_method_35_code
def yX12_chances : MethodName := ⟨RX12, "chances", "(II)V"⟩
abbrev cX12_chance : ByteArray := prog_14_method_36_code
def yX12_chance : MethodName := ⟨RX12, "chance", "(III)J"⟩
abbrev cX12_turnedOf : ByteArray := prog_14_method_37_code
def yX12_turnedOf : MethodName := ⟨RX12, "turnedOf", "(I)D"⟩
abbrev cX12_hadOf : ByteArray := prog_14_method_38_code
def yX12_hadOf : MethodName := ⟨RX12, "hadOf", "(II)D"⟩
abbrev cX12_turned : ByteArray := prog_14_method_39_code
def yX12_turned : MethodName := ⟨RX12, "turned", "(II)J"⟩
abbrev cX12_had : ByteArray := prog_14_method_40_code
def yX12_had : MethodName := ⟨RX12, "had", "(III)J"⟩
abbrev cX12_booked : ByteArray := prog_14_method_41_code
def yX12_booked : MethodName := ⟨RX12, "booked", "(II)I"⟩
abbrev cX12_setsOf : ByteArray := prog_14_method_42_code
def yX12_setsOf : MethodName := ⟨RX12, "setsOf", "(II)J"⟩
abbrev cX12_ways : ByteArray := prog_14_method_43_code
def yX12_ways : MethodName := ⟨RX12, "ways", "(III)J"⟩
abbrev cX12_asks : ByteArray := prog_14_method_44_code
def yX12_asks : MethodName := ⟨RX12, "asks", "(II)V"⟩
abbrev cX12_demand : ByteArray := prog_14_method_45_code
def yX12_demand : MethodName := ⟨RX12, "demand", "(III)J"⟩
abbrev cX12_spill : ByteArray := prog_14_method_46_code
def yX12_spill : MethodName := ⟨RX12, "spill", "(III)J"⟩
abbrev cX12_hand : ByteArray := prog_14_method_47_code
def yX12_hand : MethodName := ⟨RX12, "hand", "(II)I"⟩
abbrev cX12_seed : ByteArray := prog_14_method_48_code
def yX12_seed : MethodName := ⟨RX12, "seed", "(I)I"⟩
abbrev cX12_opens : ByteArray := prog_14_method_49_code
def yX12_opens : MethodName := ⟨RX12, "opens", "()V"⟩
abbrev cX12_isByHand : ByteArray := prog_14_method_50_code
def yX12_isByHand : MethodName := ⟨RX12, "isByHand", "(I)Z"⟩
abbrev cX12_has : ByteArray := prog_14_method_51_code
def yX12_has : MethodName := ⟨RX12, "has", "(III)Z"⟩
abbrev cX12_drawnFare : ByteArray := prog_14_method_52_code
def yX12_drawnFare : MethodName := ⟨RX12, "drawnFare", "(I)I"⟩
abbrev cX12_drawn : ByteArray := prog_14_method_53_code
def yX12_drawn : MethodName := ⟨RX12, "drawn", "(IIII)I"⟩
abbrev cX12_isLeg : ByteArray := prog_14_method_54_code
def yX12_isLeg : MethodName := ⟨RX12, "isLeg", "(I)Z"⟩
abbrev cX12_leg : ByteArray := prog_14_method_55_code
def yX12_leg : MethodName := ⟨RX12, "leg", "(III)I"⟩
abbrev cX12_isRoute : ByteArray := prog_14_method_56_code
def yX12_isRoute : MethodName := ⟨RX12, "isRoute", "(I)Z"⟩
abbrev cX12_legs : ByteArray := prog_14_method_57_code
def yX12_legs : MethodName := ⟨RX12, "legs", "(I)I"⟩
abbrev cX12_isOver : ByteArray := prog_14_method_58_code
def yX12_isOver : MethodName := ⟨RX12, "isOver", "(II)Z"⟩
abbrev cX12_fee : ByteArray := prog_14_method_59_code
def yX12_fee : MethodName := ⟨RX12, "fee", "(I)I"⟩
abbrev cX12_wanted : ByteArray := prog_14_method_60_code
def yX12_wanted : MethodName := ⟨RX12, "wanted", "(I)I"⟩
abbrev cX12_partOf : ByteArray := prog_14_method_61_code
def yX12_partOf : MethodName := ⟨RX12, "partOf", "(II)F"⟩
abbrev cX12_costOf : ByteArray := prog_14_method_62_code
def yX12_costOf : MethodName := ⟨RX12, "costOf", "(I)F"⟩
abbrev cX12_isIn : ByteArray := prog_14_method_63_code
def yX12_isIn : MethodName := ⟨RX12, "isIn", "(I)Z"⟩
abbrev cX12_part : ByteArray := prog_14_method_64_code
def yX12_part : MethodName := ⟨RX12, "part", "(II)I"⟩
abbrev cX12_cost : ByteArray := prog_14_method_65_code
def yX12_cost : MethodName := ⟨RX12, "cost", "(I)I"⟩
abbrev cX12_letters : ByteArray := prog_14_method_66_code
def yX12_letters : MethodName := ⟨RX12, "letters", "(I)I"⟩
abbrev cX12_route : ByteArray := prog_14_method_67_code
def yX12_route : MethodName := ⟨RX12, "route", "(II)I"⟩
abbrev cX12_feed : ByteArray := prog_14_method_68_code
def yX12_feed : MethodName := ⟨RX12, "feed", "(I)I"⟩
abbrev cX12_clear : ByteArray := prog_14_method_69_code
def yX12_clear : MethodName := ⟨RX12, "clear", "()I"⟩
abbrev cX12_wrong : ByteArray := prog_14_method_70_code
def yX12_wrong : MethodName := ⟨RX12, "wrong", "(I)V"⟩
abbrev cX12_isSign : ByteArray := prog_14_method_71_code
def yX12_isSign : MethodName := ⟨RX12, "isSign", "(II)Z"⟩
abbrev cX12_takes : ByteArray := prog_14_method_72_code
def yX12_takes : MethodName := ⟨RX12, "takes", "(I)Z"⟩
abbrev cX12_number : ByteArray := prog_14_method_73_code
def yX12_number : MethodName := ⟨RX12, "number", "(II)I"⟩
abbrev cX12_by : ByteArray := prog_14_method_74_code
def yX12_by : MethodName := ⟨RX12, "by", "(I)I"⟩
abbrev cX12_name : ByteArray := prog_14_method_75_code
def yX12_name : MethodName := ⟨RX12, "name", "()V"⟩
abbrev cX12_needs : ByteArray := prog_14_method_76_code
def yX12_needs : MethodName := ⟨RX12, "needs", "(I)V"⟩
abbrev cX12_comes : ByteArray := prog_14_method_77_code
def yX12_comes : MethodName := ⟨RX12, "comes", "()V"⟩
abbrev cX12_readRoute : ByteArray := prog_14_method_78_code
def yX12_readRoute : MethodName := ⟨RX12, "readRoute", "()V"⟩
abbrev cX12_pours : ByteArray := prog_14_method_79_code
def yX12_pours : MethodName := ⟨RX12, "pours", "([I[I)V"⟩
abbrev cX12_book : ByteArray := prog_14_method_80_code
def yX12_book : MethodName := ⟨RX12, "book", "()I"⟩
abbrev cX12_ends : ByteArray := prog_14_method_81_code
def yX12_ends : MethodName := ⟨RX12, "ends", "()I"⟩
abbrev cX12_wrongSign : ByteArray := prog_14_method_82_code
def yX12_wrongSign : MethodName := ⟨RX12, "wrongSign", "()I"⟩
abbrev cX12_behind : ByteArray := prog_14_method_83_code
def yX12_behind : MethodName := ⟨RX12, "behind", "(I)I"⟩
abbrev cX12_goes : ByteArray := prog_14_method_84_code
def yX12_goes : MethodName := ⟨RX12, "goes", "(I)I"⟩
abbrev cX12_replay : ByteArray := prog_14_method_85_code
def yX12_replay : MethodName := ⟨RX12, "replay", "(I)I"⟩
abbrev cX12_byHand : ByteArray := prog_14_method_86_code
def yX12_byHand : MethodName := ⟨RX12, "byHand", "(I)I"⟩
abbrev cX12_writes : ByteArray := prog_14_method_87_code
def yX12_writes : MethodName := ⟨RX12, "writes", "(I)V"⟩
abbrev cX12_writesNumber : ByteArray := prog_14_method_88_code
def yX12_writesNumber : MethodName := ⟨RX12, "writesNumber", "(I)V"⟩
abbrev cX12_spell : ByteArray := prog_14_method_89_code
def yX12_spell : MethodName := ⟨RX12, "spell", "()I"⟩
abbrev cX12_paper : ByteArray := prog_14_method_90_code
def yX12_paper : MethodName := ⟨RX12, "paper", "(I)I"⟩
abbrev cX12_unlike : ByteArray := prog_14_method_91_code
def yX12_unlike : MethodName := ⟨RX12, "unlike", "()I"⟩
abbrev cX12_greatest : ByteArray := prog_14_method_92_code
def yX12_greatest : MethodName := ⟨RX12, "greatest", "()I"⟩
abbrev cX12_told : ByteArray := prog_14_method_93_code
def yX12_told : MethodName := ⟨RX12, "told", "(I)I"⟩
abbrev cX12_isTray : ByteArray := prog_14_method_94_code
def yX12_isTray : MethodName := ⟨RX12, "isTray", "(I)Z"⟩
abbrev cX12_isUnder : ByteArray := prog_14_method_95_code
def yX12_isUnder : MethodName := ⟨RX12, "isUnder", "(II)Z"⟩
abbrev cX12_tray : ByteArray := prog_14_method_96_code
def yX12_tray : MethodName := ⟨RX12, "tray", "(III)I"⟩
abbrev cX12_whyNot : ByteArray := prog_14_method_97_code
def yX12_whyNot : MethodName := ⟨RX12, "whyNot", "(II)I"⟩
abbrev cX12_lays : ByteArray := prog_14_method_98_code
def yX12_lays : MethodName := ⟨RX12, "lays", "(III)I"⟩
abbrev cX12_laid : ByteArray := prog_14_method_99_code
def yX12_laid : MethodName := ⟨RX12, "laid", "(II)I"⟩
abbrev cX12_like : ByteArray := prog_14_method_100_code
def yX12_like : MethodName := ⟨RX12, "like", "(II)I"⟩
abbrev cX12_list : ByteArray := prog_14_method_101_code
def yX12_list : MethodName := ⟨RX12, "list", "(II)I"⟩
abbrev cX12_set : ByteArray := prog_14_method_102_code
def yX12_set : MethodName := ⟨RX12, "set", "(IIJ)I"⟩
abbrev cX12_get : ByteArray := prog_14_method_103_code
def yX12_get : MethodName := ⟨RX12, "get", "(II)J"⟩
abbrev cX12_judge : ByteArray := prog_14_method_104_code
def yX12_judge : MethodName := ⟨RX12, "judge", "(III)I"⟩
abbrev cX12_image : ByteArray := prog_14_method_105_code
def yX12_image : MethodName := ⟨RX12, "image", "()I"⟩
abbrev cX12_undo : ByteArray := prog_14_method_106_code
def yX12_undo : MethodName := ⟨RX12, "undo", "()I"⟩
def RJx145de : String := "java/io/Serializable"
def TJx145de : u_T := fun k => match k with
  | _ => ("", "", "", false)
def tyJx145de : Nat → FieldType := fun k => match k with
  | _ => .int
abbrev wsJx145de0 : List Cond := u_ws RJx145de TJx145de 0
theorem nmJx145de : ∀ a, a < 0 → ∀ b, b < 0 → a ≠ b → (TJx145de a).2.1 ≠ (TJx145de b).2.1 := by decide +kernel
theorem tyJx145de_ok : ∀ k, k < 0 → parseFieldDescriptor (TJx145de k).2.2.1 = some (tyJx145de k) := by decide +kernel
def RJ5 : String := "java/lang/AbstractStringBuilder"
def TJ5 : u_T := fun k => match k with
  | _ => ("", "", "", false)
def tyJ5 : Nat → FieldType := fun k => match k with
  | _ => .int
abbrev wsJ50 : List Cond := u_ws RJ5 TJ5 0
theorem nmJ5 : ∀ a, a < 0 → ∀ b, b < 0 → a ≠ b → (TJ5 a).2.1 ≠ (TJ5 b).2.1 := by decide +kernel
theorem tyJ5_ok : ∀ k, k < 0 → parseFieldDescriptor (TJ5 k).2.2.1 = some (tyJ5 k) := by decide +kernel
abbrev cJ5_init_d00df : ByteArray := prog_15_method_2_code
def yJ5_init_d00df : MethodName := ⟨RJ5, "<init>", "(I)V"⟩
abbrev cJ5_length_8abf5 : ByteArray := prog_15_method_6_code
def yJ5_length_8abf5 : MethodName := ⟨RJ5, "length", "()I"⟩
abbrev cJ5_ensureCapacityInternal_d00df : ByteArray := prog_15_method_9_code
def yJ5_ensureCapacityInternal_d00df : MethodName := ⟨RJ5, "ensureCapacityInternal", "(I)V"⟩
abbrev cJ5_newCapacity_0f7a4 : ByteArray := prog_15_method_10_code
def yJ5_newCapacity_0f7a4 : MethodName := ⟨RJ5, "newCapacity", "(I)I"⟩
abbrev cJ5_inflate_da8c8 : ByteArray := prog_15_method_11_code
def yJ5_inflate_da8c8 : MethodName := ⟨RJ5, "inflate", "()V"⟩
abbrev cJ5_setLength_d00df : ByteArray := prog_15_method_13_code
def yJ5_setLength_d00df : MethodName := ⟨RJ5, "setLength", "(I)V"⟩
abbrev cJ5_charAt_5068e : ByteArray := prog_15_method_14_code
def yJ5_charAt_5068e : MethodName := ⟨RJ5, "charAt", "(I)C"⟩
abbrev cJ5_append_3fe6f : ByteArray := prog_15_method_31_code
def yJ5_append_3fe6f : MethodName := ⟨RJ5, "append", "(C)Ljava/lang/AbstractStringBuilder;"⟩
abbrev cJ5_append_c97b9 : ByteArray := prog_15_method_32_code
def yJ5_append_c97b9 : MethodName := ⟨RJ5, "append", "(I)Ljava/lang/AbstractStringBuilder;"⟩
abbrev cJ5_isLatin1_aae02 : ByteArray := prog_15_method_68_code
def yJ5_isLatin1_aae02 : MethodName := ⟨RJ5, "isLatin1", "()Z"⟩
def RJx2cfe8 : String := "java/lang/Appendable"
def TJx2cfe8 : u_T := fun k => match k with
  | _ => ("", "", "", false)
def tyJx2cfe8 : Nat → FieldType := fun k => match k with
  | _ => .int
abbrev wsJx2cfe80 : List Cond := u_ws RJx2cfe8 TJx2cfe8 0
theorem nmJx2cfe8 : ∀ a, a < 0 → ∀ b, b < 0 → a ≠ b → (TJx2cfe8 a).2.1 ≠ (TJx2cfe8 b).2.1 := by decide +kernel
theorem tyJx2cfe8_ok : ∀ k, k < 0 → parseFieldDescriptor (TJx2cfe8 k).2.2.1 = some (tyJx2cfe8 k) := by decide +kernel
def RJx9f9b0 : String := "java/lang/CharSequence"
def TJx9f9b0 : u_T := fun k => match k with
  | _ => ("", "", "", false)
def tyJx9f9b0 : Nat → FieldType := fun k => match k with
  | _ => .int
abbrev wsJx9f9b00 : List Cond := u_ws RJx9f9b0 TJx9f9b0 0
theorem nmJx9f9b0 : ∀ a, a < 0 → ∀ b, b < 0 → a ≠ b → (TJx9f9b0 a).2.1 ≠ (TJx9f9b0 b).2.1 := by decide +kernel
theorem tyJx9f9b0_ok : ∀ k, k < 0 → parseFieldDescriptor (TJx9f9b0 k).2.2.1 = some (tyJx9f9b0 k) := by decide +kernel
def RJx8e188 : String := "java/lang/Cloneable"
def TJx8e188 : u_T := fun k => match k with
  | _ => ("", "", "", false)
def tyJx8e188 : Nat → FieldType := fun k => match k with
  | _ => .int
abbrev wsJx8e1880 : List Cond := u_ws RJx8e188 TJx8e188 0
theorem nmJx8e188 : ∀ a, a < 0 → ∀ b, b < 0 → a ≠ b → (TJx8e188 a).2.1 ≠ (TJx8e188 b).2.1 := by decide +kernel
theorem tyJx8e188_ok : ∀ k, k < 0 → parseFieldDescriptor (TJx8e188 k).2.2.1 = some (tyJx8e188 k) := by decide +kernel
def RJxb160c : String := "java/lang/Comparable"
def TJxb160c : u_T := fun k => match k with
  | _ => ("", "", "", false)
def tyJxb160c : Nat → FieldType := fun k => match k with
  | _ => .int
abbrev wsJxb160c0 : List Cond := u_ws RJxb160c TJxb160c 0
theorem nmJxb160c : ∀ a, a < 0 → ∀ b, b < 0 → a ≠ b → (TJxb160c a).2.1 ≠ (TJxb160c b).2.1 := by decide +kernel
theorem tyJxb160c_ok : ∀ k, k < 0 → parseFieldDescriptor (TJxb160c k).2.2.1 = some (tyJxb160c k) := by decide +kernel
def RJxe99ae : String := "java/lang/Double"
def TJxe99ae : u_T := fun k => match k with
  | _ => ("", "", "", false)
def tyJxe99ae : Nat → FieldType := fun k => match k with
  | _ => .int
abbrev wsJxe99ae0 : List Cond := u_ws RJxe99ae TJxe99ae 0
theorem nmJxe99ae : ∀ a, a < 0 → ∀ b, b < 0 → a ≠ b → (TJxe99ae a).2.1 ≠ (TJxe99ae b).2.1 := by decide +kernel
theorem tyJxe99ae_ok : ∀ k, k < 0 → parseFieldDescriptor (TJxe99ae k).2.2.1 = some (tyJxe99ae k) := by decide +kernel
abbrev cJxe99ae_isNaN_b9ae7 : ByteArray := prog_17_method_6_code
def yJxe99ae_isNaN_b9ae7 : MethodName := ⟨RJxe99ae, "isNaN", "(D)Z"⟩
abbrev cJxe99ae_doubleToLongBits_ccdee : ByteArray := prog_17_method_23_code
def yJxe99ae_doubleToLongBits_ccdee : MethodName := ⟨RJxe99ae, "doubleToLongBits", "(D)J"⟩
def RJx29ce0 : String := "java/lang/Enum"
def TJx29ce0 : u_T := fun k => match k with
  | _ => ("", "", "", false)
def tyJx29ce0 : Nat → FieldType := fun k => match k with
  | _ => .int
abbrev wsJx29ce00 : List Cond := u_ws RJx29ce0 TJx29ce0 0
theorem nmJx29ce0 : ∀ a, a < 0 → ∀ b, b < 0 → a ≠ b → (TJx29ce0 a).2.1 ≠ (TJx29ce0 b).2.1 := by decide +kernel
theorem tyJx29ce0_ok : ∀ k, k < 0 → parseFieldDescriptor (TJx29ce0 k).2.2.1 = some (tyJx29ce0 k) := by decide +kernel
def RJxf58ca : String := "java/lang/Float"
def TJxf58ca : u_T := fun k => match k with
  | _ => ("", "", "", false)
def tyJxf58ca : Nat → FieldType := fun k => match k with
  | _ => .int
abbrev wsJxf58ca0 : List Cond := u_ws RJxf58ca TJxf58ca 0
theorem nmJxf58ca : ∀ a, a < 0 → ∀ b, b < 0 → a ≠ b → (TJxf58ca a).2.1 ≠ (TJxf58ca b).2.1 := by decide +kernel
theorem tyJxf58ca_ok : ∀ k, k < 0 → parseFieldDescriptor (TJxf58ca k).2.2.1 = some (tyJxf58ca k) := by decide +kernel
abbrev cJxf58ca_isNaN_12338 : ByteArray := prog_19_method_6_code
def yJxf58ca_isNaN_12338 : MethodName := ⟨RJxf58ca, "isNaN", "(F)Z"⟩
abbrev cJxf58ca_floatToIntBits_5c35a : ByteArray := prog_19_method_24_code
def yJxf58ca_floatToIntBits_5c35a : MethodName := ⟨RJxf58ca, "floatToIntBits", "(F)I"⟩
def RJ6 : String := "java/lang/Integer"
def TJ6 : u_T := fun k => match k with
  | _ => ("", "", "", false)
def tyJ6 : Nat → FieldType := fun k => match k with
  | _ => .int
abbrev wsJ60 : List Cond := u_ws RJ6 TJ6 0
theorem nmJ6 : ∀ a, a < 0 → ∀ b, b < 0 → a ≠ b → (TJ6 a).2.1 ≠ (TJ6 b).2.1 := by decide +kernel
theorem tyJ6_ok : ∀ k, k < 0 → parseFieldDescriptor (TJ6 k).2.2.1 = some (tyJ6 k) := by decide +kernel
abbrev cJ6_getChars_ba4f3 : ByteArray := prog_20_method_12_code
def yJ6_getChars_ba4f3 : MethodName := ⟨RJ6, "getChars", "(II[B)I"⟩
abbrev cJ6_stringSize_0f7a4 : ByteArray := prog_20_method_13_code
def yJ6_stringSize_0f7a4 : MethodName := ⟨RJ6, "stringSize", "(I)I"⟩
def RJ9 : String := "java/lang/Math"
def TJ9 : u_T := fun k => match k with
  | _ => ("", "", "", false)
def tyJ9 : Nat → FieldType := fun k => match k with
  | _ => .int
abbrev wsJ90 : List Cond := u_ws RJ9 TJ9 0
theorem nmJ9 : ∀ a, a < 0 → ∀ b, b < 0 → a ≠ b → (TJ9 a).2.1 ≠ (TJ9 b).2.1 := by decide +kernel
theorem tyJ9_ok : ∀ k, k < 0 → parseFieldDescriptor (TJ9 k).2.2.1 = some (tyJ9 k) := by decide +kernel
abbrev cJ9_max_7cf53 : ByteArray := prog_21_method_65_code
def yJ9_max_7cf53 : MethodName := ⟨RJ9, "max", "(II)I"⟩
abbrev cJ9_min_7cf53 : ByteArray := prog_21_method_69_code
def yJ9_min_7cf53 : MethodName := ⟨RJ9, "min", "(II)I"⟩
def RJxd2413 : String := "java/lang/Number"
def TJxd2413 : u_T := fun k => match k with
  | _ => ("", "", "", false)
def tyJxd2413 : Nat → FieldType := fun k => match k with
  | _ => .int
abbrev wsJxd24130 : List Cond := u_ws RJxd2413 TJxd2413 0
theorem nmJxd2413 : ∀ a, a < 0 → ∀ b, b < 0 → a ≠ b → (TJxd2413 a).2.1 ≠ (TJxd2413 b).2.1 := by decide +kernel
theorem tyJxd2413_ok : ∀ k, k < 0 → parseFieldDescriptor (TJxd2413 k).2.2.1 = some (tyJxd2413 k) := by decide +kernel
def RJ0 : String := "java/lang/String"
def TJ0 : u_T := fun k => match k with
  | _ => ("", "", "", false)
def tyJ0 : Nat → FieldType := fun k => match k with
  | _ => .int
abbrev wsJ00 : List Cond := u_ws RJ0 TJ0 0
theorem nmJ0 : ∀ a, a < 0 → ∀ b, b < 0 → a ≠ b → (TJ0 a).2.1 ≠ (TJ0 b).2.1 := by decide +kernel
theorem tyJ0_ok : ∀ k, k < 0 → parseFieldDescriptor (TJ0 k).2.2.1 = some (tyJ0 k) := by decide +kernel
abbrev cJ0_checkIndex_df160 : ByteArray := prog_23_method_155_code
def yJ0_checkIndex_df160 : MethodName := ⟨RJ0, "checkIndex", "(II)V"⟩
abbrev cJ0_checkBoundsOffCount_cabcc : ByteArray := prog_23_method_157_code
def yJ0_checkBoundsOffCount_cabcc : MethodName := ⟨RJ0, "checkBoundsOffCount", "(III)I"⟩
abbrev cJ0_checkBoundsBeginEnd_23922 : ByteArray := prog_23_method_158_code
def yJ0_checkBoundsBeginEnd_23922 : MethodName := ⟨RJ0, "checkBoundsBeginEnd", "(III)V"⟩
def RJ4 : String := "java/lang/StringBuilder"
def TJ4 : u_T := fun k => match k with
  | 0 => ("java/lang/AbstractStringBuilder", "value", "[B", false)
  | 1 => ("java/lang/AbstractStringBuilder", "coder", "B", false)
  | 2 => ("java/lang/AbstractStringBuilder", "maybeLatin1", "Z", false)
  | _ => ("java/lang/AbstractStringBuilder", "count", "I", false)
def tyJ4 : Nat → FieldType := fun k => match k with
  | 0 => .array .byte
  | 1 => .byte
  | 2 => .boolean
  | _ => .int
abbrev wsJ40 : List Cond := u_ws RJ4 TJ4 4
theorem nmJ4 : ∀ a, a < 4 → ∀ b, b < 4 → a ≠ b → (TJ4 a).2.1 ≠ (TJ4 b).2.1 := by decide +kernel
theorem tyJ4_ok : ∀ k, k < 4 → parseFieldDescriptor (TJ4 k).2.2.1 = some (tyJ4 k) := by decide +kernel
abbrev cJ4_init_da8c8 : ByteArray := prog_24_method_1_code
def yJ4_init_da8c8 : MethodName := ⟨RJ4, "<init>", "()V"⟩
abbrev cJ4_append_cf468 : ByteArray := prog_24_method_14_code
def yJ4_append_cf468 : MethodName := ⟨RJ4, "append", "(C)Ljava/lang/StringBuilder;"⟩
abbrev cJ4_append_bf812 : ByteArray := prog_24_method_15_code
def yJ4_append_bf812 : MethodName := ⟨RJ4, "append", "(I)Ljava/lang/StringBuilder;"⟩
abbrev cJ4_charAt_5068e : ByteArray := prog_24_method_88_code
def yJ4_charAt_5068e : MethodName := ⟨RJ4, "charAt", "(I)C"⟩
abbrev cJ4_setLength_d00df : ByteArray := prog_24_method_89_code
def yJ4_setLength_d00df : MethodName := ⟨RJ4, "setLength", "(I)V"⟩
abbrev cJ4_length_8abf5 : ByteArray := prog_24_method_93_code
def yJ4_length_8abf5 : MethodName := ⟨RJ4, "length", "()I"⟩
def RJ1 : String := "java/lang/StringLatin1"
def TJ1 : u_T := fun k => match k with
  | _ => ("", "", "", false)
def tyJ1 : Nat → FieldType := fun k => match k with
  | _ => .int
abbrev wsJ10 : List Cond := u_ws RJ1 TJ1 0
theorem nmJ1 : ∀ a, a < 0 → ∀ b, b < 0 → a ≠ b → (TJ1 a).2.1 ≠ (TJ1 b).2.1 := by decide +kernel
theorem tyJ1_ok : ∀ k, k < 0 → parseFieldDescriptor (TJ1 k).2.2.1 = some (tyJ1 k) := by decide +kernel
abbrev cJ1_canEncode_fc78d : ByteArray := prog_25_method_3_code
def yJ1_canEncode_fc78d : MethodName := ⟨RJ1, "canEncode", "(C)Z"⟩
abbrev cJ1_fillNull_b72d1 : ByteArray := prog_25_method_48_code
def yJ1_fillNull_b72d1 : MethodName := ⟨RJ1, "fillNull", "([BII)V"⟩
abbrev cJ1_inflate_0e8fd : ByteArray := prog_25_method_50_code
def yJ1_inflate_0e8fd : MethodName := ⟨RJ1, "inflate", "([BI[BII)V"⟩
def RJ2 : String := "java/lang/StringUTF16"
def TJ2 : u_T := fun k => match k with
  | _ => ("", "", "", false)
def tyJ2 : Nat → FieldType := fun k => match k with
  | _ => .int
abbrev wsJ20 : List Cond := u_ws RJ2 TJ2 0
theorem nmJ2 : ∀ a, a < 0 → ∀ b, b < 0 → a ≠ b → (TJ2 a).2.1 ≠ (TJ2 b).2.1 := by decide +kernel
theorem tyJ2_ok : ∀ k, k < 0 → parseFieldDescriptor (TJ2 k).2.2.1 = some (tyJ2 k) := by decide +kernel
abbrev cJ2_newBytesFor_77867 : ByteArray := prog_26_method_2_code
def yJ2_newBytesFor_77867 : MethodName := ⟨RJ2, "newBytesFor", "(I)[B"⟩
abbrev cJ2_newBytesLength_0f7a4 : ByteArray := prog_26_method_3_code
def yJ2_newBytesLength_0f7a4 : MethodName := ⟨RJ2, "newBytesLength", "(I)I"⟩
abbrev cJ2_putChar_b72d1 : ByteArray := prog_26_method_4_code
def yJ2_putChar_b72d1 : MethodName := ⟨RJ2, "putChar", "([BII)V"⟩
abbrev cJ2_getChar_3b067 : ByteArray := prog_26_method_5_code
def yJ2_getChar_3b067 : MethodName := ⟨RJ2, "getChar", "([BI)C"⟩
abbrev cJ2_length_9d52b : ByteArray := prog_26_method_6_code
def yJ2_length_9d52b : MethodName := ⟨RJ2, "length", "([B)I"⟩
abbrev cJ2_fillNull_b72d1 : ByteArray := prog_26_method_70_code
def yJ2_fillNull_b72d1 : MethodName := ⟨RJ2, "fillNull", "([BII)V"⟩
abbrev cJ2_putCharSB_b72d1 : ByteArray := prog_26_method_71_code
def yJ2_putCharSB_b72d1 : MethodName := ⟨RJ2, "putCharSB", "([BII)V"⟩
abbrev cJ2_getChars_46870 : ByteArray := prog_26_method_77_code
def yJ2_getChars_46870 : MethodName := ⟨RJ2, "getChars", "(III[B)I"⟩
abbrev cJ2_inflate_0e8fd : ByteArray := prog_26_method_86_code
def yJ2_inflate_0e8fd : MethodName := ⟨RJ2, "inflate", "([BI[BII)V"⟩
abbrev cJ2_getChars_ba4f3 : ByteArray := prog_26_method_89_code
def yJ2_getChars_ba4f3 : MethodName := ⟨RJ2, "getChars", "(II[B)I"⟩
abbrev cJ2_checkIndex_2214a : ByteArray := prog_26_method_91_code
def yJ2_checkIndex_2214a : MethodName := ⟨RJ2, "checkIndex", "(I[B)V"⟩
abbrev cJ2_checkBoundsBeginEnd_d044e : ByteArray := prog_26_method_93_code
def yJ2_checkBoundsBeginEnd_d044e : MethodName := ⟨RJ2, "checkBoundsBeginEnd", "(II[B)V"⟩
abbrev cJ2_checkBoundsOffCount_d044e : ByteArray := prog_26_method_94_code
def yJ2_checkBoundsOffCount_d044e : MethodName := ⟨RJ2, "checkBoundsOffCount", "(II[B)V"⟩
def RJ10 : String := "java/lang/System"
def TJ10 : u_T := fun k => match k with
  | _ => ("", "", "", false)
def tyJ10 : Nat → FieldType := fun k => match k with
  | _ => .int
abbrev wsJ100 : List Cond := u_ws RJ10 TJ10 0
theorem nmJ10 : ∀ a, a < 0 → ∀ b, b < 0 → a ≠ b → (TJ10 a).2.1 ≠ (TJ10 b).2.1 := by decide +kernel
theorem tyJ10_ok : ∀ k, k < 0 → parseFieldDescriptor (TJ10 k).2.2.1 = some (tyJ10 k) := by decide +kernel
def RJxfd54e : String := "java/lang/constant/Constable"
def TJxfd54e : u_T := fun k => match k with
  | _ => ("", "", "", false)
def tyJxfd54e : Nat → FieldType := fun k => match k with
  | _ => .int
abbrev wsJxfd54e0 : List Cond := u_ws RJxfd54e TJxfd54e 0
theorem nmJxfd54e : ∀ a, a < 0 → ∀ b, b < 0 → a ≠ b → (TJxfd54e a).2.1 ≠ (TJxfd54e b).2.1 := by decide +kernel
theorem tyJxfd54e_ok : ∀ k, k < 0 → parseFieldDescriptor (TJxfd54e k).2.2.1 = some (tyJxfd54e k) := by decide +kernel
def RJx3cf43 : String := "java/lang/constant/ConstantDesc"
def TJx3cf43 : u_T := fun k => match k with
  | _ => ("", "", "", false)
def tyJx3cf43 : Nat → FieldType := fun k => match k with
  | _ => .int
abbrev wsJx3cf430 : List Cond := u_ws RJx3cf43 TJx3cf43 0
theorem nmJx3cf43 : ∀ a, a < 0 → ∀ b, b < 0 → a ≠ b → (TJx3cf43 a).2.1 ≠ (TJx3cf43 b).2.1 := by decide +kernel
theorem tyJx3cf43_ok : ∀ k, k < 0 → parseFieldDescriptor (TJx3cf43 k).2.2.1 = some (tyJx3cf43 k) := by decide +kernel
def RJ7 : String := "java/util/Arrays"
def TJ7 : u_T := fun k => match k with
  | _ => ("", "", "", false)
def tyJ7 : Nat → FieldType := fun k => match k with
  | _ => .int
abbrev wsJ70 : List Cond := u_ws RJ7 TJ7 0
theorem nmJ7 : ∀ a, a < 0 → ∀ b, b < 0 → a ≠ b → (TJ7 a).2.1 ≠ (TJ7 b).2.1 := by decide +kernel
theorem tyJ7_ok : ∀ k, k < 0 → parseFieldDescriptor (TJ7 k).2.2.1 = some (tyJ7 k) := by decide +kernel
abbrev cJ7_rangeCheck_23922 : ByteArray := prog_28_method_30_code
def yJ7_rangeCheck_23922 : MethodName := ⟨RJ7, "rangeCheck", "(III)V"⟩
abbrev cJ7_fill_d0a16 : ByteArray := prog_28_method_101_code
def yJ7_fill_d0a16 : MethodName := ⟨RJ7, "fill", "([JJ)V"⟩
abbrev cJ7_fill_53178 : ByteArray := prog_28_method_103_code
def yJ7_fill_53178 : MethodName := ⟨RJ7, "fill", "([II)V"⟩
abbrev cJ7_fill_eb02e : ByteArray := prog_28_method_110_code
def yJ7_fill_eb02e : MethodName := ⟨RJ7, "fill", "([BIIB)V"⟩
abbrev cJ7_fill_7f8df : ByteArray := prog_28_method_113_code
def yJ7_fill_7f8df : MethodName := ⟨RJ7, "fill", "([DD)V"⟩
abbrev cJ7_copyOf_9075b : ByteArray := prog_28_method_121_code
def yJ7_copyOf_9075b : MethodName := ⟨RJ7, "copyOf", "([BI)[B"⟩
def RJ8 : String := "jdk/internal/util/ArraysSupport"
def TJ8 : u_T := fun k => match k with
  | _ => ("", "", "", false)
def tyJ8 : Nat → FieldType := fun k => match k with
  | _ => .int
abbrev wsJ80 : List Cond := u_ws RJ8 TJ8 0
theorem nmJ8 : ∀ a, a < 0 → ∀ b, b < 0 → a ≠ b → (TJ8 a).2.1 ≠ (TJ8 b).2.1 := by decide +kernel
theorem tyJ8_ok : ∀ k, k < 0 → parseFieldDescriptor (TJ8 k).2.2.1 = some (tyJ8 k) := by decide +kernel
abbrev cJ8_newLength_cabcc : ByteArray := prog_29_method_27_code
def yJ8_newLength_cabcc : MethodName := ⟨RJ8, "newLength", "(III)I"⟩
abbrev cJ8_hugeLength_7cf53 : ByteArray := prog_29_method_28_code
def yJ8_hugeLength_7cf53 : MethodName := ⟨RJ8, "hugeLength", "(II)I"⟩
def RJ3 : String := "jdk/internal/util/Preconditions"
def TJ3 : u_T := fun k => match k with
  | _ => ("", "", "", false)
def tyJ3 : Nat → FieldType := fun k => match k with
  | _ => .int
abbrev wsJ30 : List Cond := u_ws RJ3 TJ3 0
theorem nmJ3 : ∀ a, a < 0 → ∀ b, b < 0 → a ≠ b → (TJ3 a).2.1 ≠ (TJ3 b).2.1 := by decide +kernel
theorem tyJ3_ok : ∀ k, k < 0 → parseFieldDescriptor (TJ3 k).2.2.1 = some (tyJ3 k) := by decide +kernel
abbrev cJ3_checkIndex_8e157 : ByteArray := prog_30_method_11_code
def yJ3_checkIndex_8e157 : MethodName := ⟨RJ3, "checkIndex", "(IILjava/util/function/BiFunction;)I"⟩
abbrev cJ3_checkFromToIndex_8c36e : ByteArray := prog_30_method_12_code
def yJ3_checkFromToIndex_8c36e : MethodName := ⟨RJ3, "checkFromToIndex", "(IIILjava/util/function/BiFunction;)I"⟩
abbrev cJ3_checkFromIndexSize_8c36e : ByteArray := prog_30_method_13_code
def yJ3_checkFromIndexSize_8c36e : MethodName := ⟨RJ3, "checkFromIndexSize", "(IIILjava/util/function/BiFunction;)I"⟩
def RL : String := "FareLimitsLaw"
abbrev vwCl : List vw_C := [(RJ4, TJ4, 4), (RX0, TX0, 2), (RX1, TX1, 9), (RX2, TX2, 4), (RX4, TX4, 4), (RX5, TX5, 5), (RX6, TX6, 4), (RX7, TX7, 9), (RX8, TX8, 3), (RX9, TX9, 2), (RX10, TX10, 4), (RX11, TX11, 12), (RX12, TX12, 29)]
/-- two private methods of a text's class above, on a text: selected as they are (proved at the law's start) -/
def lw_ext : List Cond := [Cond.selects "java/lang/StringBuilder" ⟨"java/lang/AbstractStringBuilder", "ensureCapacityInternal", "(I)V"⟩ ⟨"java/lang/AbstractStringBuilder", "ensureCapacityInternal", "(I)V"⟩, Cond.selects "java/lang/StringBuilder" ⟨"java/lang/AbstractStringBuilder", "newCapacity", "(I)I"⟩ ⟨"java/lang/AbstractStringBuilder", "newCapacity", "(I)I"⟩]
/-- the words that are good to hand on -/
def lw_all : List Cond := lw_tbl.filter goodWord ++ lw_ext
theorem lw_in {w : Cond} (h : w ∈ lw_tbl) (g : goodWord w = true) : w ∈ lw_all := List.mem_append_left _ (List.mem_filter.mpr ⟨h, g⟩)
theorem kw_9000 : Cond.selects "java/lang/StringBuilder" ⟨"java/lang/AbstractStringBuilder", "ensureCapacityInternal", "(I)V"⟩ ⟨"java/lang/AbstractStringBuilder", "ensureCapacityInternal", "(I)V"⟩ ∈ lw_all := List.mem_append_right _ List.mem_cons_self
theorem kw_9001 : Cond.selects "java/lang/StringBuilder" ⟨"java/lang/AbstractStringBuilder", "newCapacity", "(I)I"⟩ ⟨"java/lang/AbstractStringBuilder", "newCapacity", "(I)I"⟩ ∈ lw_all := List.mem_append_right _ (List.mem_cons_of_mem _ List.mem_cons_self)
theorem lw_all_good : ∀ w ∈ lw_all, goodWord w = true := by
  intro w h
  rcases List.mem_append.mp h with h | h
  · exact (List.mem_filter.mp h).2
  · simp only [lw_ext, List.mem_cons, List.not_mem_nil, or_false] at h
    rcases h with rfl | rfl <;> rfl
theorem lw_all_tbl {w : Cond} (h : w ∈ lw_all) : w ∈ lw_tbl ∨ w ∈ lw_ext := (List.mem_append.mp h).imp (fun h => (List.mem_filter.mp h).1) id
/-- a private method of the class above is selected on an object, where another of that class is -/
theorem m_selPriv {s : State} {args : Array Value} {C : String} {y z : MethodName} (hyz : y.cls = z.cls) (hy : y.cls ≠ "java/lang/invoke/MethodHandle" ∧ y.cls ≠ "java/lang/invoke/VarHandle") (hz : (Cond.selects C z z).before args s = true) (hpriv : (Cond.privateMethod y).before args s = true) (hinst : (Cond.instanceMethod y).before args s = true) : (Cond.selects C y y).before args s = true := by
  obtain ⟨c, r, m, hc, hr, hm, hsm, mk9, hmk, hni⟩ := Cond.selects_spec hz
  obtain ⟨mk, methM, hnamed, hmethM, -, -⟩ := Cond.instanceMethod_spec hinst
  have hfound : s.methodFound? y.cls y.name y.desc = some mk := State.methodFound?_of_named hnamed hy
  have h1 : s.vm.findClass y.cls = some mk.cls := findClass_of_methodNamed hnamed
  have h2 : s.vm.findClass z.cls = some m.cls := findClass_of_methodNamed hm
  have hcls : mk.cls = m.cls := Option.some.inj (h1.symm.trans (hyz ▸ h2))
  have hsel : selectMethod {} s.vm c mk = .method mk := selectMethod_private hmethM (Cond.privateMethod_at hpriv mk methM hnamed hmethM)
  simp only [Cond.before, Cond.holds, Cond.value, hc, hfound, hnamed, hsel, hcls, hmk]
  simp; exact hni
