section
-- ===== PART A: goes FIRST, ahead of the names: the tables' words, and 'selects' of the private methods out of them =====
/-- a private method of a class that the tables say can be made, by its rows of tables_1 -/
def lw_okq (q : MethodName × Nat) : Prop := (q.1.cls ≠ "java/lang/invoke/MethodHandle" ∧ q.1.cls ≠ "java/lang/invoke/VarHandle") ∧ Cond.instantiable q.1.cls q.2 ∈ tables_1 ∧ Cond.privateMethod q.1 ∈ tables_1 ∧ Cond.instanceMethod q.1 ∈ tables_1
theorem lw_p0 : lw_okq (⟨"PolyRegisters", "keepEarlier", "()V"⟩, 16) := ⟨⟨by decide +kernel, by decide +kernel⟩, List.mem_of_getElem? (i := 25) (by decide +kernel), List.mem_of_getElem? (i := 365) (by decide +kernel), List.mem_of_getElem? (i := 366) (by decide +kernel)⟩
theorem lw_p1 : lw_okq (⟨"PolyRegisters", "earlierBench", "()LPolyRegisters$Bench;"⟩, 16) := ⟨⟨by decide +kernel, by decide +kernel⟩, List.mem_of_getElem? (i := 25) (by decide +kernel), List.mem_of_getElem? (i := 369) (by decide +kernel), List.mem_of_getElem? (i := 370) (by decide +kernel)⟩
theorem lw_p2 : lw_okq (⟨"PolyRegisters$Bench", "placeAt", "(I)I"⟩, 4) := ⟨⟨by decide +kernel, by decide +kernel⟩, List.mem_of_getElem? (i := 33) (by decide +kernel), List.mem_of_getElem? (i := 380) (by decide +kernel), List.mem_of_getElem? (i := 381) (by decide +kernel)⟩
theorem lw_p3 : lw_okq (⟨"PolyRegisters", "told", "(Z)LPolyRegisters$Wide;"⟩, 16) := ⟨⟨by decide +kernel, by decide +kernel⟩, List.mem_of_getElem? (i := 25) (by decide +kernel), List.mem_of_getElem? (i := 403) (by decide +kernel), List.mem_of_getElem? (i := 404) (by decide +kernel)⟩
theorem lw_p4 : lw_okq (⟨"PolyRegisters$Desk", "times", "(LPolyRegisters$Poly;LPolyRegisters$Poly;LPolyRegisters$Poly;)Z"⟩, 8) := ⟨⟨by decide +kernel, by decide +kernel⟩, List.mem_of_getElem? (i := 75) (by decide +kernel), List.mem_of_getElem? (i := 468) (by decide +kernel), List.mem_of_getElem? (i := 469) (by decide +kernel)⟩
theorem lw_p5 : lw_okq (⟨"PolyRegisters$Wide", "gather", "(LPolyRegisters$Wide;)V"⟩, 3) := ⟨⟨by decide +kernel, by decide +kernel⟩, List.mem_of_getElem? (i := 87) (by decide +kernel), List.mem_of_getElem? (i := 502) (by decide +kernel), List.mem_of_getElem? (i := 503) (by decide +kernel)⟩
theorem lw_p6 : lw_okq (⟨"PolyRegisters$Wide", "isLess", "(LPolyRegisters$Wide;)Z"⟩, 3) := ⟨⟨by decide +kernel, by decide +kernel⟩, List.mem_of_getElem? (i := 87) (by decide +kernel), List.mem_of_getElem? (i := 507) (by decide +kernel), List.mem_of_getElem? (i := 508) (by decide +kernel)⟩
theorem lw_p7 : lw_okq (⟨"PolyRegisters$Wide", "differ", "(LPolyRegisters$Wide;LPolyRegisters$Wide;)V"⟩, 3) := ⟨⟨by decide +kernel, by decide +kernel⟩, List.mem_of_getElem? (i := 87) (by decide +kernel), List.mem_of_getElem? (i := 511) (by decide +kernel), List.mem_of_getElem? (i := 512) (by decide +kernel)⟩
theorem lw_p8 : lw_okq (⟨"PolyRegisters$Text", "putTerm", "(JI)V"⟩, 2) := ⟨⟨by decide +kernel, by decide +kernel⟩, List.mem_of_getElem? (i := 59) (by decide +kernel), List.mem_of_getElem? (i := 520) (by decide +kernel), List.mem_of_getElem? (i := 521) (by decide +kernel)⟩
theorem lw_p9 : lw_okq (⟨"PolyRegisters$Text", "put", "(I)V"⟩, 2) := ⟨⟨by decide +kernel, by decide +kernel⟩, List.mem_of_getElem? (i := 59) (by decide +kernel), List.mem_of_getElem? (i := 524) (by decide +kernel), List.mem_of_getElem? (i := 525) (by decide +kernel)⟩
theorem lw_p10 : lw_okq (⟨"PolyRegisters$Text", "putNumber", "(J)V"⟩, 2) := ⟨⟨by decide +kernel, by decide +kernel⟩, List.mem_of_getElem? (i := 59) (by decide +kernel), List.mem_of_getElem? (i := 528) (by decide +kernel), List.mem_of_getElem? (i := 529) (by decide +kernel)⟩
theorem lw_p11 : lw_okq (⟨"PolyRegisters$Reader", "readSum", "(I)V"⟩, 8) := ⟨⟨by decide +kernel, by decide +kernel⟩, List.mem_of_getElem? (i := 267) (by decide +kernel), List.mem_of_getElem? (i := 538) (by decide +kernel), List.mem_of_getElem? (i := 539) (by decide +kernel)⟩
theorem lw_p12 : lw_okq (⟨"PolyRegisters$Reader", "takes", "(C)Z"⟩, 8) := ⟨⟨by decide +kernel, by decide +kernel⟩, List.mem_of_getElem? (i := 267) (by decide +kernel), List.mem_of_getElem? (i := 548) (by decide +kernel), List.mem_of_getElem? (i := 549) (by decide +kernel)⟩
theorem lw_p13 : lw_okq (⟨"PolyRegisters$Reader", "skipBlanks", "()V"⟩, 8) := ⟨⟨by decide +kernel, by decide +kernel⟩, List.mem_of_getElem? (i := 267) (by decide +kernel), List.mem_of_getElem? (i := 552) (by decide +kernel), List.mem_of_getElem? (i := 553) (by decide +kernel)⟩
theorem lw_p14 : lw_okq (⟨"PolyRegisters$Reader", "readProduct", "(I)V"⟩, 8) := ⟨⟨by decide +kernel, by decide +kernel⟩, List.mem_of_getElem? (i := 267) (by decide +kernel), List.mem_of_getElem? (i := 560) (by decide +kernel), List.mem_of_getElem? (i := 561) (by decide +kernel)⟩
theorem lw_p15 : lw_okq (⟨"PolyRegisters$Reader", "readFactor", "(I)I"⟩, 8) := ⟨⟨by decide +kernel, by decide +kernel⟩, List.mem_of_getElem? (i := 267) (by decide +kernel), List.mem_of_getElem? (i := 564) (by decide +kernel), List.mem_of_getElem? (i := 565) (by decide +kernel)⟩
def lw_privs_1 : List (MethodName × Nat) := [(⟨"PolyRegisters", "keepEarlier", "()V"⟩, 16), (⟨"PolyRegisters", "earlierBench", "()LPolyRegisters$Bench;"⟩, 16), (⟨"PolyRegisters$Bench", "placeAt", "(I)I"⟩, 4), (⟨"PolyRegisters", "told", "(Z)LPolyRegisters$Wide;"⟩, 16), (⟨"PolyRegisters$Desk", "times", "(LPolyRegisters$Poly;LPolyRegisters$Poly;LPolyRegisters$Poly;)Z"⟩, 8), (⟨"PolyRegisters$Wide", "gather", "(LPolyRegisters$Wide;)V"⟩, 3), (⟨"PolyRegisters$Wide", "isLess", "(LPolyRegisters$Wide;)Z"⟩, 3), (⟨"PolyRegisters$Wide", "differ", "(LPolyRegisters$Wide;LPolyRegisters$Wide;)V"⟩, 3), (⟨"PolyRegisters$Text", "putTerm", "(JI)V"⟩, 2), (⟨"PolyRegisters$Text", "put", "(I)V"⟩, 2), (⟨"PolyRegisters$Text", "putNumber", "(J)V"⟩, 2), (⟨"PolyRegisters$Reader", "readSum", "(I)V"⟩, 8), (⟨"PolyRegisters$Reader", "takes", "(C)Z"⟩, 8), (⟨"PolyRegisters$Reader", "skipBlanks", "()V"⟩, 8), (⟨"PolyRegisters$Reader", "readProduct", "(I)V"⟩, 8), (⟨"PolyRegisters$Reader", "readFactor", "(I)I"⟩, 8)]
theorem lw_r1 : ∀ q ∈ lw_privs_1, lw_okq q := List.forall_mem_cons.mpr ⟨lw_p0, List.forall_mem_cons.mpr ⟨lw_p1, List.forall_mem_cons.mpr ⟨lw_p2, List.forall_mem_cons.mpr ⟨lw_p3, List.forall_mem_cons.mpr ⟨lw_p4, List.forall_mem_cons.mpr ⟨lw_p5, List.forall_mem_cons.mpr ⟨lw_p6, List.forall_mem_cons.mpr ⟨lw_p7, List.forall_mem_cons.mpr ⟨lw_p8, List.forall_mem_cons.mpr ⟨lw_p9, List.forall_mem_cons.mpr ⟨lw_p10, List.forall_mem_cons.mpr ⟨lw_p11, List.forall_mem_cons.mpr ⟨lw_p12, List.forall_mem_cons.mpr ⟨lw_p13, List.forall_mem_cons.mpr ⟨lw_p14, List.forall_mem_cons.mpr ⟨lw_p15, fun _ h => absurd h List.not_mem_nil⟩⟩⟩⟩⟩⟩⟩⟩⟩⟩⟩⟩⟩⟩⟩⟩
theorem lw_p16 : lw_okq (⟨"PolyRegisters$Reader", "readNumber", "()J"⟩, 8) := ⟨⟨by decide +kernel, by decide +kernel⟩, List.mem_of_getElem? (i := 267) (by decide +kernel), List.mem_of_getElem? (i := 571) (by decide +kernel), List.mem_of_getElem? (i := 572) (by decide +kernel)⟩
theorem lw_p17 : lw_okq (⟨"PolyRegisters$Reader", "readExponent", "()I"⟩, 8) := ⟨⟨by decide +kernel, by decide +kernel⟩, List.mem_of_getElem? (i := 267) (by decide +kernel), List.mem_of_getElem? (i := 578) (by decide +kernel), List.mem_of_getElem? (i := 579) (by decide +kernel)⟩
theorem lw_p18 : lw_okq (⟨"PolyRegisters$Reader", "check", "(Z[J)V"⟩, 8) := ⟨⟨by decide +kernel, by decide +kernel⟩, List.mem_of_getElem? (i := 267) (by decide +kernel), List.mem_of_getElem? (i := 599) (by decide +kernel), List.mem_of_getElem? (i := 600) (by decide +kernel)⟩
theorem lw_p19 : lw_okq (⟨"java/lang/Throwable", "fillInStackTrace", "(I)Ljava/lang/Throwable;"⟩, 6) := ⟨⟨by decide +kernel, by decide +kernel⟩, List.mem_of_getElem? (i := 658) (by decide +kernel), List.mem_of_getElem? (i := 656) (by decide +kernel), List.mem_of_getElem? (i := 657) (by decide +kernel)⟩
theorem lw_p20 : lw_okq (⟨"PolyRegisters", "rowOf", "(I)[J"⟩, 16) := ⟨⟨by decide +kernel, by decide +kernel⟩, List.mem_of_getElem? (i := 25) (by decide +kernel), List.mem_of_getElem? (i := 708) (by decide +kernel), List.mem_of_getElem? (i := 709) (by decide +kernel)⟩
theorem lw_p21 : lw_okq (⟨"PolyRegisters", "keep", "(I)I"⟩, 16) := ⟨⟨by decide +kernel, by decide +kernel⟩, List.mem_of_getElem? (i := 25) (by decide +kernel), List.mem_of_getElem? (i := 749) (by decide +kernel), List.mem_of_getElem? (i := 750) (by decide +kernel)⟩
theorem lw_p22 : lw_okq (⟨"PolyRegisters$Sturm", "makeNext", "(LPolyRegisters$Poly;LPolyRegisters$Poly;LPolyRegisters$Poly;)V"⟩, 6) := ⟨⟨by decide +kernel, by decide +kernel⟩, List.mem_of_getElem? (i := 183) (by decide +kernel), List.mem_of_getElem? (i := 892) (by decide +kernel), List.mem_of_getElem? (i := 893) (by decide +kernel)⟩
theorem lw_p23 : lw_okq (⟨"PolyRegisters$Divisor", "guess", "(LPolyRegisters$Wide;I)J"⟩, 4) := ⟨⟨by decide +kernel, by decide +kernel⟩, List.mem_of_getElem? (i := 128) (by decide +kernel), List.mem_of_getElem? (i := 918) (by decide +kernel), List.mem_of_getElem? (i := 919) (by decide +kernel)⟩
theorem lw_p24 : lw_okq (⟨"PolyRegisters$Divisor", "takeAway", "(LPolyRegisters$Wide;IJ)Z"⟩, 4) := ⟨⟨by decide +kernel, by decide +kernel⟩, List.mem_of_getElem? (i := 128) (by decide +kernel), List.mem_of_getElem? (i := 922) (by decide +kernel), List.mem_of_getElem? (i := 923) (by decide +kernel)⟩
theorem lw_p25 : lw_okq (⟨"PolyRegisters$Divisor", "putBack", "(LPolyRegisters$Wide;I)V"⟩, 4) := ⟨⟨by decide +kernel, by decide +kernel⟩, List.mem_of_getElem? (i := 128) (by decide +kernel), List.mem_of_getElem? (i := 927) (by decide +kernel), List.mem_of_getElem? (i := 928) (by decide +kernel)⟩
theorem lw_p26 : lw_okq (⟨"PolyRegisters$Sturm", "renewKnown", "(I)V"⟩, 6) := ⟨⟨by decide +kernel, by decide +kernel⟩, List.mem_of_getElem? (i := 183) (by decide +kernel), List.mem_of_getElem? (i := 949) (by decide +kernel), List.mem_of_getElem? (i := 950) (by decide +kernel)⟩
theorem lw_p27 : lw_okq (⟨"PolyRegisters$Roots", "takePrimitive", "(LPolyRegisters$Poly;J)V"⟩, 12) := ⟨⟨by decide +kernel, by decide +kernel⟩, List.mem_of_getElem? (i := 215) (by decide +kernel), List.mem_of_getElem? (i := 961) (by decide +kernel), List.mem_of_getElem? (i := 962) (by decide +kernel)⟩
theorem lw_p28 : lw_okq (⟨"PolyRegisters", "tellLong", "(J)I"⟩, 16) := ⟨⟨by decide +kernel, by decide +kernel⟩, List.mem_of_getElem? (i := 25) (by decide +kernel), List.mem_of_getElem? (i := 1119) (by decide +kernel), List.mem_of_getElem? (i := 1120) (by decide +kernel)⟩
theorem lw_p29 : lw_okq (⟨"PolyRegisters", "tellQuotient", "(LPolyRegisters$Wide;JI)I"⟩, 16) := ⟨⟨by decide +kernel, by decide +kernel⟩, List.mem_of_getElem? (i := 25) (by decide +kernel), List.mem_of_getElem? (i := 1152) (by decide +kernel), List.mem_of_getElem? (i := 1153) (by decide +kernel)⟩
theorem lw_p30 : lw_okq (⟨"PolyRegistersModel", "sets", "(IJ)V"⟩, 16) := ⟨⟨by decide +kernel, by decide +kernel⟩, List.mem_of_getElem? (i := 1361) (by decide +kernel), List.mem_of_getElem? (i := 1372) (by decide +kernel), List.mem_of_getElem? (i := 1373) (by decide +kernel)⟩
theorem lw_p31 : lw_okq (⟨"PolyRegistersModel", "sums", "(IIII)I"⟩, 16) := ⟨⟨by decide +kernel, by decide +kernel⟩, List.mem_of_getElem? (i := 1361) (by decide +kernel), List.mem_of_getElem? (i := 1434) (by decide +kernel), List.mem_of_getElem? (i := 1435) (by decide +kernel)⟩
def lw_privs_2 : List (MethodName × Nat) := [(⟨"PolyRegisters$Reader", "readNumber", "()J"⟩, 8), (⟨"PolyRegisters$Reader", "readExponent", "()I"⟩, 8), (⟨"PolyRegisters$Reader", "check", "(Z[J)V"⟩, 8), (⟨"java/lang/Throwable", "fillInStackTrace", "(I)Ljava/lang/Throwable;"⟩, 6), (⟨"PolyRegisters", "rowOf", "(I)[J"⟩, 16), (⟨"PolyRegisters", "keep", "(I)I"⟩, 16), (⟨"PolyRegisters$Sturm", "makeNext", "(LPolyRegisters$Poly;LPolyRegisters$Poly;LPolyRegisters$Poly;)V"⟩, 6), (⟨"PolyRegisters$Divisor", "guess", "(LPolyRegisters$Wide;I)J"⟩, 4), (⟨"PolyRegisters$Divisor", "takeAway", "(LPolyRegisters$Wide;IJ)Z"⟩, 4), (⟨"PolyRegisters$Divisor", "putBack", "(LPolyRegisters$Wide;I)V"⟩, 4), (⟨"PolyRegisters$Sturm", "renewKnown", "(I)V"⟩, 6), (⟨"PolyRegisters$Roots", "takePrimitive", "(LPolyRegisters$Poly;J)V"⟩, 12), (⟨"PolyRegisters", "tellLong", "(J)I"⟩, 16), (⟨"PolyRegisters", "tellQuotient", "(LPolyRegisters$Wide;JI)I"⟩, 16), (⟨"PolyRegistersModel", "sets", "(IJ)V"⟩, 16), (⟨"PolyRegistersModel", "sums", "(IIII)I"⟩, 16)]
theorem lw_r2 : ∀ q ∈ lw_privs_2, lw_okq q := List.forall_mem_cons.mpr ⟨lw_p16, List.forall_mem_cons.mpr ⟨lw_p17, List.forall_mem_cons.mpr ⟨lw_p18, List.forall_mem_cons.mpr ⟨lw_p19, List.forall_mem_cons.mpr ⟨lw_p20, List.forall_mem_cons.mpr ⟨lw_p21, List.forall_mem_cons.mpr ⟨lw_p22, List.forall_mem_cons.mpr ⟨lw_p23, List.forall_mem_cons.mpr ⟨lw_p24, List.forall_mem_cons.mpr ⟨lw_p25, List.forall_mem_cons.mpr ⟨lw_p26, List.forall_mem_cons.mpr ⟨lw_p27, List.forall_mem_cons.mpr ⟨lw_p28, List.forall_mem_cons.mpr ⟨lw_p29, List.forall_mem_cons.mpr ⟨lw_p30, List.forall_mem_cons.mpr ⟨lw_p31, fun _ h => absurd h List.not_mem_nil⟩⟩⟩⟩⟩⟩⟩⟩⟩⟩⟩⟩⟩⟩⟩⟩
theorem lw_p32 : lw_okq (⟨"PolyRegistersModel", "fails", "(I)I"⟩, 16) := ⟨⟨by decide +kernel, by decide +kernel⟩, List.mem_of_getElem? (i := 1361) (by decide +kernel), List.mem_of_getElem? (i := 1448) (by decide +kernel), List.mem_of_getElem? (i := 1449) (by decide +kernel)⟩
theorem lw_p33 : lw_okq (⟨"PolyRegistersModel", "loads", "(II)V"⟩, 16) := ⟨⟨by decide +kernel, by decide +kernel⟩, List.mem_of_getElem? (i := 1361) (by decide +kernel), List.mem_of_getElem? (i := 1452) (by decide +kernel), List.mem_of_getElem? (i := 1453) (by decide +kernel)⟩
theorem lw_p34 : lw_okq (⟨"PolyRegistersModel", "addsPoly", "(IIII)V"⟩, 16) := ⟨⟨by decide +kernel, by decide +kernel⟩, List.mem_of_getElem? (i := 1361) (by decide +kernel), List.mem_of_getElem? (i := 1459) (by decide +kernel), List.mem_of_getElem? (i := 1460) (by decide +kernel)⟩
theorem lw_p35 : lw_okq (⟨"PolyRegistersModel", "adds", "(IIII)V"⟩, 16) := ⟨⟨by decide +kernel, by decide +kernel⟩, List.mem_of_getElem? (i := 1361) (by decide +kernel), List.mem_of_getElem? (i := 1463) (by decide +kernel), List.mem_of_getElem? (i := 1464) (by decide +kernel)⟩
theorem lw_p36 : lw_okq (⟨"PolyRegistersModel", "sign", "(I)I"⟩, 16) := ⟨⟨by decide +kernel, by decide +kernel⟩, List.mem_of_getElem? (i := 1361) (by decide +kernel), List.mem_of_getElem? (i := 1467) (by decide +kernel), List.mem_of_getElem? (i := 1468) (by decide +kernel)⟩
theorem lw_p37 : lw_okq (⟨"PolyRegistersModel", "copies", "(II)V"⟩, 16) := ⟨⟨by decide +kernel, by decide +kernel⟩, List.mem_of_getElem? (i := 1361) (by decide +kernel), List.mem_of_getElem? (i := 1471) (by decide +kernel), List.mem_of_getElem? (i := 1472) (by decide +kernel)⟩
theorem lw_p38 : lw_okq (⟨"PolyRegistersModel", "length", "(I)I"⟩, 16) := ⟨⟨by decide +kernel, by decide +kernel⟩, List.mem_of_getElem? (i := 1361) (by decide +kernel), List.mem_of_getElem? (i := 1475) (by decide +kernel), List.mem_of_getElem? (i := 1476) (by decide +kernel)⟩
theorem lw_p39 : lw_okq (⟨"PolyRegistersModel", "addsSizes", "(IIII)V"⟩, 16) := ⟨⟨by decide +kernel, by decide +kernel⟩, List.mem_of_getElem? (i := 1361) (by decide +kernel), List.mem_of_getElem? (i := 1482) (by decide +kernel), List.mem_of_getElem? (i := 1483) (by decide +kernel)⟩
theorem lw_p40 : lw_okq (⟨"PolyRegistersModel", "trims", "(II)V"⟩, 16) := ⟨⟨by decide +kernel, by decide +kernel⟩, List.mem_of_getElem? (i := 1361) (by decide +kernel), List.mem_of_getElem? (i := 1488) (by decide +kernel), List.mem_of_getElem? (i := 1489) (by decide +kernel)⟩
theorem lw_p41 : lw_okq (⟨"PolyRegistersModel", "comparesSizes", "(II)I"⟩, 16) := ⟨⟨by decide +kernel, by decide +kernel⟩, List.mem_of_getElem? (i := 1361) (by decide +kernel), List.mem_of_getElem? (i := 1492) (by decide +kernel), List.mem_of_getElem? (i := 1493) (by decide +kernel)⟩
theorem lw_p42 : lw_okq (⟨"PolyRegistersModel", "limb", "(II)I"⟩, 16) := ⟨⟨by decide +kernel, by decide +kernel⟩, List.mem_of_getElem? (i := 1361) (by decide +kernel), List.mem_of_getElem? (i := 1496) (by decide +kernel), List.mem_of_getElem? (i := 1497) (by decide +kernel)⟩
theorem lw_p43 : lw_okq (⟨"PolyRegistersModel", "takesSizes", "(IIII)V"⟩, 16) := ⟨⟨by decide +kernel, by decide +kernel⟩, List.mem_of_getElem? (i := 1361) (by decide +kernel), List.mem_of_getElem? (i := 1500) (by decide +kernel), List.mem_of_getElem? (i := 1501) (by decide +kernel)⟩
theorem lw_p44 : lw_okq (⟨"PolyRegistersModel", "puts", "(III)I"⟩, 16) := ⟨⟨by decide +kernel, by decide +kernel⟩, List.mem_of_getElem? (i := 1361) (by decide +kernel), List.mem_of_getElem? (i := 1504) (by decide +kernel), List.mem_of_getElem? (i := 1505) (by decide +kernel)⟩
theorem lw_p45 : lw_okq (⟨"PolyRegistersModel", "isInBounds", "(I)Z"⟩, 16) := ⟨⟨by decide +kernel, by decide +kernel⟩, List.mem_of_getElem? (i := 1361) (by decide +kernel), List.mem_of_getElem? (i := 1508) (by decide +kernel), List.mem_of_getElem? (i := 1509) (by decide +kernel)⟩
theorem lw_p46 : lw_okq (⟨"PolyRegistersModel", "keeps", "()V"⟩, 16) := ⟨⟨by decide +kernel, by decide +kernel⟩, List.mem_of_getElem? (i := 1361) (by decide +kernel), List.mem_of_getElem? (i := 1512) (by decide +kernel), List.mem_of_getElem? (i := 1513) (by decide +kernel)⟩
theorem lw_p47 : lw_okq (⟨"PolyRegistersModel", "stores", "(II)V"⟩, 16) := ⟨⟨by decide +kernel, by decide +kernel⟩, List.mem_of_getElem? (i := 1361) (by decide +kernel), List.mem_of_getElem? (i := 1516) (by decide +kernel), List.mem_of_getElem? (i := 1517) (by decide +kernel)⟩
def lw_privs_3 : List (MethodName × Nat) := [(⟨"PolyRegistersModel", "fails", "(I)I"⟩, 16), (⟨"PolyRegistersModel", "loads", "(II)V"⟩, 16), (⟨"PolyRegistersModel", "addsPoly", "(IIII)V"⟩, 16), (⟨"PolyRegistersModel", "adds", "(IIII)V"⟩, 16), (⟨"PolyRegistersModel", "sign", "(I)I"⟩, 16), (⟨"PolyRegistersModel", "copies", "(II)V"⟩, 16), (⟨"PolyRegistersModel", "length", "(I)I"⟩, 16), (⟨"PolyRegistersModel", "addsSizes", "(IIII)V"⟩, 16), (⟨"PolyRegistersModel", "trims", "(II)V"⟩, 16), (⟨"PolyRegistersModel", "comparesSizes", "(II)I"⟩, 16), (⟨"PolyRegistersModel", "limb", "(II)I"⟩, 16), (⟨"PolyRegistersModel", "takesSizes", "(IIII)V"⟩, 16), (⟨"PolyRegistersModel", "puts", "(III)I"⟩, 16), (⟨"PolyRegistersModel", "isInBounds", "(I)Z"⟩, 16), (⟨"PolyRegistersModel", "keeps", "()V"⟩, 16), (⟨"PolyRegistersModel", "stores", "(II)V"⟩, 16)]
theorem lw_r3 : ∀ q ∈ lw_privs_3, lw_okq q := List.forall_mem_cons.mpr ⟨lw_p32, List.forall_mem_cons.mpr ⟨lw_p33, List.forall_mem_cons.mpr ⟨lw_p34, List.forall_mem_cons.mpr ⟨lw_p35, List.forall_mem_cons.mpr ⟨lw_p36, List.forall_mem_cons.mpr ⟨lw_p37, List.forall_mem_cons.mpr ⟨lw_p38, List.forall_mem_cons.mpr ⟨lw_p39, List.forall_mem_cons.mpr ⟨lw_p40, List.forall_mem_cons.mpr ⟨lw_p41, List.forall_mem_cons.mpr ⟨lw_p42, List.forall_mem_cons.mpr ⟨lw_p43, List.forall_mem_cons.mpr ⟨lw_p44, List.forall_mem_cons.mpr ⟨lw_p45, List.forall_mem_cons.mpr ⟨lw_p46, List.forall_mem_cons.mpr ⟨lw_p47, fun _ h => absurd h List.not_mem_nil⟩⟩⟩⟩⟩⟩⟩⟩⟩⟩⟩⟩⟩⟩⟩⟩
theorem lw_p48 : lw_okq (⟨"PolyRegistersModel", "asLong", "(I)J"⟩, 16) := ⟨⟨by decide +kernel, by decide +kernel⟩, List.mem_of_getElem? (i := 1361) (by decide +kernel), List.mem_of_getElem? (i := 1520) (by decide +kernel), List.mem_of_getElem? (i := 1521) (by decide +kernel)⟩
theorem lw_p49 : lw_okq (⟨"PolyRegistersModel", "degreeOf", "(I)I"⟩, 16) := ⟨⟨by decide +kernel, by decide +kernel⟩, List.mem_of_getElem? (i := 1361) (by decide +kernel), List.mem_of_getElem? (i := 1524) (by decide +kernel), List.mem_of_getElem? (i := 1525) (by decide +kernel)⟩
theorem lw_p50 : lw_okq (⟨"PolyRegistersModel", "isTooHigh", "(II)Z"⟩, 16) := ⟨⟨by decide +kernel, by decide +kernel⟩, List.mem_of_getElem? (i := 1361) (by decide +kernel), List.mem_of_getElem? (i := 1536) (by decide +kernel), List.mem_of_getElem? (i := 1537) (by decide +kernel)⟩
theorem lw_p51 : lw_okq (⟨"PolyRegistersModel", "multipliesPoly", "(III)V"⟩, 16) := ⟨⟨by decide +kernel, by decide +kernel⟩, List.mem_of_getElem? (i := 1361) (by decide +kernel), List.mem_of_getElem? (i := 1540) (by decide +kernel), List.mem_of_getElem? (i := 1541) (by decide +kernel)⟩
theorem lw_p52 : lw_okq (⟨"PolyRegistersModel", "empties", "(I)V"⟩, 16) := ⟨⟨by decide +kernel, by decide +kernel⟩, List.mem_of_getElem? (i := 1361) (by decide +kernel), List.mem_of_getElem? (i := 1544) (by decide +kernel), List.mem_of_getElem? (i := 1545) (by decide +kernel)⟩
theorem lw_p53 : lw_okq (⟨"PolyRegistersModel", "multiplies", "(III)V"⟩, 16) := ⟨⟨by decide +kernel, by decide +kernel⟩, List.mem_of_getElem? (i := 1361) (by decide +kernel), List.mem_of_getElem? (i := 1548) (by decide +kernel), List.mem_of_getElem? (i := 1549) (by decide +kernel)⟩
theorem lw_p54 : lw_okq (⟨"PolyRegistersModel", "raises", "(III)Z"⟩, 16) := ⟨⟨by decide +kernel, by decide +kernel⟩, List.mem_of_getElem? (i := 1361) (by decide +kernel), List.mem_of_getElem? (i := 1557) (by decide +kernel), List.mem_of_getElem? (i := 1558) (by decide +kernel)⟩
theorem lw_p55 : lw_okq (⟨"PolyRegistersModel", "copiesPoly", "(II)V"⟩, 16) := ⟨⟨by decide +kernel, by decide +kernel⟩, List.mem_of_getElem? (i := 1361) (by decide +kernel), List.mem_of_getElem? (i := 1561) (by decide +kernel), List.mem_of_getElem? (i := 1562) (by decide +kernel)⟩
theorem lw_p56 : lw_okq (⟨"PolyRegistersModel", "derives", "(II)V"⟩, 16) := ⟨⟨by decide +kernel, by decide +kernel⟩, List.mem_of_getElem? (i := 1361) (by decide +kernel), List.mem_of_getElem? (i := 1569) (by decide +kernel), List.mem_of_getElem? (i := 1570) (by decide +kernel)⟩
theorem lw_p57 : lw_okq (⟨"PolyRegistersModel", "isZero", "(I)Z"⟩, 16) := ⟨⟨by decide +kernel, by decide +kernel⟩, List.mem_of_getElem? (i := 1361) (by decide +kernel), List.mem_of_getElem? (i := 1581) (by decide +kernel), List.mem_of_getElem? (i := 1582) (by decide +kernel)⟩
theorem lw_p58 : lw_okq (⟨"PolyRegistersModel", "degreeIn", "(I)I"⟩, 16) := ⟨⟨by decide +kernel, by decide +kernel⟩, List.mem_of_getElem? (i := 1361) (by decide +kernel), List.mem_of_getElem? (i := 1585) (by decide +kernel), List.mem_of_getElem? (i := 1586) (by decide +kernel)⟩
theorem lw_p59 : lw_okq (⟨"PolyRegistersModel", "dividesPoly", "(IIII)I"⟩, 16) := ⟨⟨by decide +kernel, by decide +kernel⟩, List.mem_of_getElem? (i := 1361) (by decide +kernel), List.mem_of_getElem? (i := 1589) (by decide +kernel), List.mem_of_getElem? (i := 1590) (by decide +kernel)⟩
theorem lw_p60 : lw_okq (⟨"PolyRegistersModel", "contents", "(II)V"⟩, 16) := ⟨⟨by decide +kernel, by decide +kernel⟩, List.mem_of_getElem? (i := 1361) (by decide +kernel), List.mem_of_getElem? (i := 1597) (by decide +kernel), List.mem_of_getElem? (i := 1598) (by decide +kernel)⟩
theorem lw_p61 : lw_okq (⟨"PolyRegistersModel", "commons", "(III)V"⟩, 16) := ⟨⟨by decide +kernel, by decide +kernel⟩, List.mem_of_getElem? (i := 1361) (by decide +kernel), List.mem_of_getElem? (i := 1601) (by decide +kernel), List.mem_of_getElem? (i := 1602) (by decide +kernel)⟩
theorem lw_p62 : lw_okq (⟨"PolyRegistersModel", "cuts", "(IIII)V"⟩, 16) := ⟨⟨by decide +kernel, by decide +kernel⟩, List.mem_of_getElem? (i := 1361) (by decide +kernel), List.mem_of_getElem? (i := 1605) (by decide +kernel), List.mem_of_getElem? (i := 1606) (by decide +kernel)⟩
theorem lw_p63 : lw_okq (⟨"PolyRegistersModel", "dividesLimb", "(II)I"⟩, 16) := ⟨⟨by decide +kernel, by decide +kernel⟩, List.mem_of_getElem? (i := 1361) (by decide +kernel), List.mem_of_getElem? (i := 1612) (by decide +kernel), List.mem_of_getElem? (i := 1613) (by decide +kernel)⟩
def lw_privs_4 : List (MethodName × Nat) := [(⟨"PolyRegistersModel", "asLong", "(I)J"⟩, 16), (⟨"PolyRegistersModel", "degreeOf", "(I)I"⟩, 16), (⟨"PolyRegistersModel", "isTooHigh", "(II)Z"⟩, 16), (⟨"PolyRegistersModel", "multipliesPoly", "(III)V"⟩, 16), (⟨"PolyRegistersModel", "empties", "(I)V"⟩, 16), (⟨"PolyRegistersModel", "multiplies", "(III)V"⟩, 16), (⟨"PolyRegistersModel", "raises", "(III)Z"⟩, 16), (⟨"PolyRegistersModel", "copiesPoly", "(II)V"⟩, 16), (⟨"PolyRegistersModel", "derives", "(II)V"⟩, 16), (⟨"PolyRegistersModel", "isZero", "(I)Z"⟩, 16), (⟨"PolyRegistersModel", "degreeIn", "(I)I"⟩, 16), (⟨"PolyRegistersModel", "dividesPoly", "(IIII)I"⟩, 16), (⟨"PolyRegistersModel", "contents", "(II)V"⟩, 16), (⟨"PolyRegistersModel", "commons", "(III)V"⟩, 16), (⟨"PolyRegistersModel", "cuts", "(IIII)V"⟩, 16), (⟨"PolyRegistersModel", "dividesLimb", "(II)I"⟩, 16)]
theorem lw_r4 : ∀ q ∈ lw_privs_4, lw_okq q := List.forall_mem_cons.mpr ⟨lw_p48, List.forall_mem_cons.mpr ⟨lw_p49, List.forall_mem_cons.mpr ⟨lw_p50, List.forall_mem_cons.mpr ⟨lw_p51, List.forall_mem_cons.mpr ⟨lw_p52, List.forall_mem_cons.mpr ⟨lw_p53, List.forall_mem_cons.mpr ⟨lw_p54, List.forall_mem_cons.mpr ⟨lw_p55, List.forall_mem_cons.mpr ⟨lw_p56, List.forall_mem_cons.mpr ⟨lw_p57, List.forall_mem_cons.mpr ⟨lw_p58, List.forall_mem_cons.mpr ⟨lw_p59, List.forall_mem_cons.mpr ⟨lw_p60, List.forall_mem_cons.mpr ⟨lw_p61, List.forall_mem_cons.mpr ⟨lw_p62, List.forall_mem_cons.mpr ⟨lw_p63, fun _ h => absurd h List.not_mem_nil⟩⟩⟩⟩⟩⟩⟩⟩⟩⟩⟩⟩⟩⟩⟩⟩
theorem lw_p64 : lw_okq (⟨"PolyRegistersModel", "commonsPoly", "(III)V"⟩, 16) := ⟨⟨by decide +kernel, by decide +kernel⟩, List.mem_of_getElem? (i := 1361) (by decide +kernel), List.mem_of_getElem? (i := 1616) (by decide +kernel), List.mem_of_getElem? (i := 1617) (by decide +kernel)⟩
theorem lw_p65 : lw_okq (⟨"PolyRegistersModel", "makesPrimitive", "(I)V"⟩, 16) := ⟨⟨by decide +kernel, by decide +kernel⟩, List.mem_of_getElem? (i := 1361) (by decide +kernel), List.mem_of_getElem? (i := 1620) (by decide +kernel), List.mem_of_getElem? (i := 1621) (by decide +kernel)⟩
theorem lw_p66 : lw_okq (⟨"PolyRegistersModel", "shrinks", "(I)V"⟩, 16) := ⟨⟨by decide +kernel, by decide +kernel⟩, List.mem_of_getElem? (i := 1361) (by decide +kernel), List.mem_of_getElem? (i := 1624) (by decide +kernel), List.mem_of_getElem? (i := 1625) (by decide +kernel)⟩
theorem lw_p67 : lw_okq (⟨"PolyRegistersModel", "exact", "(II)V"⟩, 16) := ⟨⟨by decide +kernel, by decide +kernel⟩, List.mem_of_getElem? (i := 1361) (by decide +kernel), List.mem_of_getElem? (i := 1628) (by decide +kernel), List.mem_of_getElem? (i := 1629) (by decide +kernel)⟩
theorem lw_p68 : lw_okq (⟨"PolyRegistersModel", "negates", "(I)V"⟩, 16) := ⟨⟨by decide +kernel, by decide +kernel⟩, List.mem_of_getElem? (i := 1361) (by decide +kernel), List.mem_of_getElem? (i := 1632) (by decide +kernel), List.mem_of_getElem? (i := 1633) (by decide +kernel)⟩
theorem lw_p69 : lw_okq (⟨"PolyRegistersModel", "simplifies", "(II)V"⟩, 16) := ⟨⟨by decide +kernel, by decide +kernel⟩, List.mem_of_getElem? (i := 1361) (by decide +kernel), List.mem_of_getElem? (i := 1644) (by decide +kernel), List.mem_of_getElem? (i := 1645) (by decide +kernel)⟩
theorem lw_p70 : lw_okq (⟨"PolyRegistersModel", "dividesExactly", "(III)Z"⟩, 16) := ⟨⟨by decide +kernel, by decide +kernel⟩, List.mem_of_getElem? (i := 1361) (by decide +kernel), List.mem_of_getElem? (i := 1648) (by decide +kernel), List.mem_of_getElem? (i := 1649) (by decide +kernel)⟩
theorem lw_p71 : lw_okq (⟨"PolyRegistersModel", "rest", "(III)J"⟩, 16) := ⟨⟨by decide +kernel, by decide +kernel⟩, List.mem_of_getElem? (i := 1361) (by decide +kernel), List.mem_of_getElem? (i := 1661) (by decide +kernel), List.mem_of_getElem? (i := 1662) (by decide +kernel)⟩
theorem lw_p72 : lw_okq (⟨"PolyRegistersModel", "readsSum", "()Z"⟩, 16) := ⟨⟨by decide +kernel, by decide +kernel⟩, List.mem_of_getElem? (i := 1361) (by decide +kernel), List.mem_of_getElem? (i := 1675) (by decide +kernel), List.mem_of_getElem? (i := 1676) (by decide +kernel)⟩
theorem lw_p73 : lw_okq (⟨"PolyRegistersModel", "takes", "(I)Z"⟩, 16) := ⟨⟨by decide +kernel, by decide +kernel⟩, List.mem_of_getElem? (i := 1361) (by decide +kernel), List.mem_of_getElem? (i := 1679) (by decide +kernel), List.mem_of_getElem? (i := 1680) (by decide +kernel)⟩
theorem lw_p74 : lw_okq (⟨"PolyRegistersModel", "skips", "()V"⟩, 16) := ⟨⟨by decide +kernel, by decide +kernel⟩, List.mem_of_getElem? (i := 1361) (by decide +kernel), List.mem_of_getElem? (i := 1683) (by decide +kernel), List.mem_of_getElem? (i := 1684) (by decide +kernel)⟩
theorem lw_p75 : lw_okq (⟨"PolyRegistersModel", "readsProduct", "()Z"⟩, 16) := ⟨⟨by decide +kernel, by decide +kernel⟩, List.mem_of_getElem? (i := 1361) (by decide +kernel), List.mem_of_getElem? (i := 1687) (by decide +kernel), List.mem_of_getElem? (i := 1688) (by decide +kernel)⟩
theorem lw_p76 : lw_okq (⟨"PolyRegistersModel", "readsPower", "()Z"⟩, 16) := ⟨⟨by decide +kernel, by decide +kernel⟩, List.mem_of_getElem? (i := 1361) (by decide +kernel), List.mem_of_getElem? (i := 1691) (by decide +kernel), List.mem_of_getElem? (i := 1692) (by decide +kernel)⟩
theorem lw_p77 : lw_okq (⟨"PolyRegistersModel", "errs", "(I)Z"⟩, 16) := ⟨⟨by decide +kernel, by decide +kernel⟩, List.mem_of_getElem? (i := 1361) (by decide +kernel), List.mem_of_getElem? (i := 1695) (by decide +kernel), List.mem_of_getElem? (i := 1696) (by decide +kernel)⟩
theorem lw_p78 : lw_okq (⟨"PolyRegistersModel", "readsNumber", "(J)Z"⟩, 16) := ⟨⟨by decide +kernel, by decide +kernel⟩, List.mem_of_getElem? (i := 1361) (by decide +kernel), List.mem_of_getElem? (i := 1700) (by decide +kernel), List.mem_of_getElem? (i := 1701) (by decide +kernel)⟩
theorem lw_p79 : lw_okq (⟨"PolyRegistersModel", "readsEnd", "()Z"⟩, 16) := ⟨⟨by decide +kernel, by decide +kernel⟩, List.mem_of_getElem? (i := 1361) (by decide +kernel), List.mem_of_getElem? (i := 1710) (by decide +kernel), List.mem_of_getElem? (i := 1711) (by decide +kernel)⟩
def lw_privs_5 : List (MethodName × Nat) := [(⟨"PolyRegistersModel", "commonsPoly", "(III)V"⟩, 16), (⟨"PolyRegistersModel", "makesPrimitive", "(I)V"⟩, 16), (⟨"PolyRegistersModel", "shrinks", "(I)V"⟩, 16), (⟨"PolyRegistersModel", "exact", "(II)V"⟩, 16), (⟨"PolyRegistersModel", "negates", "(I)V"⟩, 16), (⟨"PolyRegistersModel", "simplifies", "(II)V"⟩, 16), (⟨"PolyRegistersModel", "dividesExactly", "(III)Z"⟩, 16), (⟨"PolyRegistersModel", "rest", "(III)J"⟩, 16), (⟨"PolyRegistersModel", "readsSum", "()Z"⟩, 16), (⟨"PolyRegistersModel", "takes", "(I)Z"⟩, 16), (⟨"PolyRegistersModel", "skips", "()V"⟩, 16), (⟨"PolyRegistersModel", "readsProduct", "()Z"⟩, 16), (⟨"PolyRegistersModel", "readsPower", "()Z"⟩, 16), (⟨"PolyRegistersModel", "errs", "(I)Z"⟩, 16), (⟨"PolyRegistersModel", "readsNumber", "(J)Z"⟩, 16), (⟨"PolyRegistersModel", "readsEnd", "()Z"⟩, 16)]
theorem lw_r5 : ∀ q ∈ lw_privs_5, lw_okq q := List.forall_mem_cons.mpr ⟨lw_p64, List.forall_mem_cons.mpr ⟨lw_p65, List.forall_mem_cons.mpr ⟨lw_p66, List.forall_mem_cons.mpr ⟨lw_p67, List.forall_mem_cons.mpr ⟨lw_p68, List.forall_mem_cons.mpr ⟨lw_p69, List.forall_mem_cons.mpr ⟨lw_p70, List.forall_mem_cons.mpr ⟨lw_p71, List.forall_mem_cons.mpr ⟨lw_p72, List.forall_mem_cons.mpr ⟨lw_p73, List.forall_mem_cons.mpr ⟨lw_p74, List.forall_mem_cons.mpr ⟨lw_p75, List.forall_mem_cons.mpr ⟨lw_p76, List.forall_mem_cons.mpr ⟨lw_p77, List.forall_mem_cons.mpr ⟨lw_p78, List.forall_mem_cons.mpr ⟨lw_p79, fun _ h => absurd h List.not_mem_nil⟩⟩⟩⟩⟩⟩⟩⟩⟩⟩⟩⟩⟩⟩⟩⟩
theorem lw_p80 : lw_okq (⟨"PolyRegistersModel", "worksSum", "(I)V"⟩, 16) := ⟨⟨by decide +kernel, by decide +kernel⟩, List.mem_of_getElem? (i := 1361) (by decide +kernel), List.mem_of_getElem? (i := 1714) (by decide +kernel), List.mem_of_getElem? (i := 1715) (by decide +kernel)⟩
theorem lw_p81 : lw_okq (⟨"PolyRegistersModel", "worksProduct", "(I)V"⟩, 16) := ⟨⟨by decide +kernel, by decide +kernel⟩, List.mem_of_getElem? (i := 1361) (by decide +kernel), List.mem_of_getElem? (i := 1718) (by decide +kernel), List.mem_of_getElem? (i := 1719) (by decide +kernel)⟩
theorem lw_p82 : lw_okq (⟨"PolyRegistersModel", "worksPower", "(I)V"⟩, 16) := ⟨⟨by decide +kernel, by decide +kernel⟩, List.mem_of_getElem? (i := 1361) (by decide +kernel), List.mem_of_getElem? (i := 1722) (by decide +kernel), List.mem_of_getElem? (i := 1723) (by decide +kernel)⟩
theorem lw_p83 : lw_okq (⟨"PolyRegistersModel", "number", "()J"⟩, 16) := ⟨⟨by decide +kernel, by decide +kernel⟩, List.mem_of_getElem? (i := 1361) (by decide +kernel), List.mem_of_getElem? (i := 1726) (by decide +kernel), List.mem_of_getElem? (i := 1727) (by decide +kernel)⟩
theorem lw_p84 : lw_okq (⟨"PolyRegistersModel", "bounds", "(I)V"⟩, 16) := ⟨⟨by decide +kernel, by decide +kernel⟩, List.mem_of_getElem? (i := 1361) (by decide +kernel), List.mem_of_getElem? (i := 1730) (by decide +kernel), List.mem_of_getElem? (i := 1731) (by decide +kernel)⟩
theorem lw_p85 : lw_okq (⟨"PolyRegistersModel", "differences", "(I)J"⟩, 16) := ⟨⟨by decide +kernel, by decide +kernel⟩, List.mem_of_getElem? (i := 1361) (by decide +kernel), List.mem_of_getElem? (i := 1750) (by decide +kernel), List.mem_of_getElem? (i := 1751) (by decide +kernel)⟩
theorem lw_p86 : lw_okq (⟨"PolyRegistersModel", "laysProduct", "(I)V"⟩, 16) := ⟨⟨by decide +kernel, by decide +kernel⟩, List.mem_of_getElem? (i := 1361) (by decide +kernel), List.mem_of_getElem? (i := 1757) (by decide +kernel), List.mem_of_getElem? (i := 1758) (by decide +kernel)⟩
theorem lw_p87 : lw_okq (⟨"PolyRegistersModel", "termsOf", "(I)I"⟩, 16) := ⟨⟨by decide +kernel, by decide +kernel⟩, List.mem_of_getElem? (i := 1361) (by decide +kernel), List.mem_of_getElem? (i := 1773) (by decide +kernel), List.mem_of_getElem? (i := 1774) (by decide +kernel)⟩
theorem lw_p88 : lw_okq (⟨"PolyRegistersModel", "tellsWhole", "(I)I"⟩, 16) := ⟨⟨by decide +kernel, by decide +kernel⟩, List.mem_of_getElem? (i := 1361) (by decide +kernel), List.mem_of_getElem? (i := 1785) (by decide +kernel), List.mem_of_getElem? (i := 1786) (by decide +kernel)⟩
theorem lw_p89 : lw_okq (⟨"PolyRegistersModel", "setsFraction", "(II)V"⟩, 16) := ⟨⟨by decide +kernel, by decide +kernel⟩, List.mem_of_getElem? (i := 1361) (by decide +kernel), List.mem_of_getElem? (i := 1802) (by decide +kernel), List.mem_of_getElem? (i := 1803) (by decide +kernel)⟩
theorem lw_p90 : lw_okq (⟨"PolyRegistersModel", "valueAt", "(I)I"⟩, 16) := ⟨⟨by decide +kernel, by decide +kernel⟩, List.mem_of_getElem? (i := 1361) (by decide +kernel), List.mem_of_getElem? (i := 1806) (by decide +kernel), List.mem_of_getElem? (i := 1807) (by decide +kernel)⟩
theorem lw_p91 : lw_okq (⟨"PolyRegistersModel", "tells", "(II)I"⟩, 16) := ⟨⟨by decide +kernel, by decide +kernel⟩, List.mem_of_getElem? (i := 1361) (by decide +kernel), List.mem_of_getElem? (i := 1810) (by decide +kernel), List.mem_of_getElem? (i := 1811) (by decide +kernel)⟩
theorem lw_p92 : lw_okq (⟨"PolyRegistersModel", "isSame", "(II)Z"⟩, 16) := ⟨⟨by decide +kernel, by decide +kernel⟩, List.mem_of_getElem? (i := 1361) (by decide +kernel), List.mem_of_getElem? (i := 1822) (by decide +kernel), List.mem_of_getElem? (i := 1823) (by decide +kernel)⟩
theorem lw_p93 : lw_okq (⟨"PolyRegistersModel", "compares", "(II)I"⟩, 16) := ⟨⟨by decide +kernel, by decide +kernel⟩, List.mem_of_getElem? (i := 1361) (by decide +kernel), List.mem_of_getElem? (i := 1830) (by decide +kernel), List.mem_of_getElem? (i := 1831) (by decide +kernel)⟩
theorem lw_p94 : lw_okq (⟨"PolyRegistersModel", "digitsOf", "(I)I"⟩, 16) := ⟨⟨by decide +kernel, by decide +kernel⟩, List.mem_of_getElem? (i := 1361) (by decide +kernel), List.mem_of_getElem? (i := 1841) (by decide +kernel), List.mem_of_getElem? (i := 1842) (by decide +kernel)⟩
theorem lw_p95 : lw_okq (⟨"PolyRegistersModel", "laysRow", "(I)V"⟩, 16) := ⟨⟨by decide +kernel, by decide +kernel⟩, List.mem_of_getElem? (i := 1361) (by decide +kernel), List.mem_of_getElem? (i := 1857) (by decide +kernel), List.mem_of_getElem? (i := 1858) (by decide +kernel)⟩
def lw_privs_6 : List (MethodName × Nat) := [(⟨"PolyRegistersModel", "worksSum", "(I)V"⟩, 16), (⟨"PolyRegistersModel", "worksProduct", "(I)V"⟩, 16), (⟨"PolyRegistersModel", "worksPower", "(I)V"⟩, 16), (⟨"PolyRegistersModel", "number", "()J"⟩, 16), (⟨"PolyRegistersModel", "bounds", "(I)V"⟩, 16), (⟨"PolyRegistersModel", "differences", "(I)J"⟩, 16), (⟨"PolyRegistersModel", "laysProduct", "(I)V"⟩, 16), (⟨"PolyRegistersModel", "termsOf", "(I)I"⟩, 16), (⟨"PolyRegistersModel", "tellsWhole", "(I)I"⟩, 16), (⟨"PolyRegistersModel", "setsFraction", "(II)V"⟩, 16), (⟨"PolyRegistersModel", "valueAt", "(I)I"⟩, 16), (⟨"PolyRegistersModel", "tells", "(II)I"⟩, 16), (⟨"PolyRegistersModel", "isSame", "(II)Z"⟩, 16), (⟨"PolyRegistersModel", "compares", "(II)I"⟩, 16), (⟨"PolyRegistersModel", "digitsOf", "(I)I"⟩, 16), (⟨"PolyRegistersModel", "laysRow", "(I)V"⟩, 16)]
theorem lw_r6 : ∀ q ∈ lw_privs_6, lw_okq q := List.forall_mem_cons.mpr ⟨lw_p80, List.forall_mem_cons.mpr ⟨lw_p81, List.forall_mem_cons.mpr ⟨lw_p82, List.forall_mem_cons.mpr ⟨lw_p83, List.forall_mem_cons.mpr ⟨lw_p84, List.forall_mem_cons.mpr ⟨lw_p85, List.forall_mem_cons.mpr ⟨lw_p86, List.forall_mem_cons.mpr ⟨lw_p87, List.forall_mem_cons.mpr ⟨lw_p88, List.forall_mem_cons.mpr ⟨lw_p89, List.forall_mem_cons.mpr ⟨lw_p90, List.forall_mem_cons.mpr ⟨lw_p91, List.forall_mem_cons.mpr ⟨lw_p92, List.forall_mem_cons.mpr ⟨lw_p93, List.forall_mem_cons.mpr ⟨lw_p94, List.forall_mem_cons.mpr ⟨lw_p95, fun _ h => absurd h List.not_mem_nil⟩⟩⟩⟩⟩⟩⟩⟩⟩⟩⟩⟩⟩⟩⟩⟩
theorem lw_p96 : lw_okq (⟨"PolyRegistersModel", "rootsOf", "()I"⟩, 16) := ⟨⟨by decide +kernel, by decide +kernel⟩, List.mem_of_getElem? (i := 1361) (by decide +kernel), List.mem_of_getElem? (i := 1861) (by decide +kernel), List.mem_of_getElem? (i := 1862) (by decide +kernel)⟩
theorem lw_p97 : lw_okq (⟨"PolyRegistersModel", "changesAt", "(I)I"⟩, 16) := ⟨⟨by decide +kernel, by decide +kernel⟩, List.mem_of_getElem? (i := 1361) (by decide +kernel), List.mem_of_getElem? (i := 1865) (by decide +kernel), List.mem_of_getElem? (i := 1866) (by decide +kernel)⟩
theorem lw_p98 : lw_okq (⟨"PolyRegistersModel", "laysSimpleRow", "(I)I"⟩, 16) := ⟨⟨by decide +kernel, by decide +kernel⟩, List.mem_of_getElem? (i := 1361) (by decide +kernel), List.mem_of_getElem? (i := 1885) (by decide +kernel), List.mem_of_getElem? (i := 1886) (by decide +kernel)⟩
theorem lw_p99 : lw_okq (⟨"PolyRegistersModel", "closes", "(I)V"⟩, 16) := ⟨⟨by decide +kernel, by decide +kernel⟩, List.mem_of_getElem? (i := 1361) (by decide +kernel), List.mem_of_getElem? (i := 1890) (by decide +kernel), List.mem_of_getElem? (i := 1891) (by decide +kernel)⟩
theorem lw_p100 : lw_okq (⟨"PolyRegistersModel", "laysStep", "()I"⟩, 16) := ⟨⟨by decide +kernel, by decide +kernel⟩, List.mem_of_getElem? (i := 1361) (by decide +kernel), List.mem_of_getElem? (i := 1894) (by decide +kernel), List.mem_of_getElem? (i := 1895) (by decide +kernel)⟩
theorem lw_p101 : lw_okq (⟨"PolyRegistersModel", "isFractionRoot", "(I)Z"⟩, 16) := ⟨⟨by decide +kernel, by decide +kernel⟩, List.mem_of_getElem? (i := 1361) (by decide +kernel), List.mem_of_getElem? (i := 1903) (by decide +kernel), List.mem_of_getElem? (i := 1904) (by decide +kernel)⟩
theorem lw_p102 : lw_okq (⟨"PolyRegistersModel", "isRootBy", "(III)Z"⟩, 16) := ⟨⟨by decide +kernel, by decide +kernel⟩, List.mem_of_getElem? (i := 1361) (by decide +kernel), List.mem_of_getElem? (i := 1915) (by decide +kernel), List.mem_of_getElem? (i := 1916) (by decide +kernel)⟩
theorem lw_p103 : lw_okq (⟨"PolyRegistersModel", "byteOf", "(IIIIII)I"⟩, 16) := ⟨⟨by decide +kernel, by decide +kernel⟩, List.mem_of_getElem? (i := 1361) (by decide +kernel), List.mem_of_getElem? (i := 1931) (by decide +kernel), List.mem_of_getElem? (i := 1932) (by decide +kernel)⟩
theorem lw_p104 : lw_okq (⟨"PolyRegistersModel", "writes", "(I)V"⟩, 16) := ⟨⟨by decide +kernel, by decide +kernel⟩, List.mem_of_getElem? (i := 1361) (by decide +kernel), List.mem_of_getElem? (i := 1947) (by decide +kernel), List.mem_of_getElem? (i := 1948) (by decide +kernel)⟩
theorem lw_p105 : lw_okq (⟨"PolyRegistersModel", "writesTerm", "(JI)V"⟩, 16) := ⟨⟨by decide +kernel, by decide +kernel⟩, List.mem_of_getElem? (i := 1361) (by decide +kernel), List.mem_of_getElem? (i := 1951) (by decide +kernel), List.mem_of_getElem? (i := 1952) (by decide +kernel)⟩
theorem lw_p106 : lw_okq (⟨"PolyRegistersModel", "writesNumber", "(J)V"⟩, 16) := ⟨⟨by decide +kernel, by decide +kernel⟩, List.mem_of_getElem? (i := 1361) (by decide +kernel), List.mem_of_getElem? (i := 1955) (by decide +kernel), List.mem_of_getElem? (i := 1956) (by decide +kernel)⟩
def lw_privs_7 : List (MethodName × Nat) := [(⟨"PolyRegistersModel", "rootsOf", "()I"⟩, 16), (⟨"PolyRegistersModel", "changesAt", "(I)I"⟩, 16), (⟨"PolyRegistersModel", "laysSimpleRow", "(I)I"⟩, 16), (⟨"PolyRegistersModel", "closes", "(I)V"⟩, 16), (⟨"PolyRegistersModel", "laysStep", "()I"⟩, 16), (⟨"PolyRegistersModel", "isFractionRoot", "(I)Z"⟩, 16), (⟨"PolyRegistersModel", "isRootBy", "(III)Z"⟩, 16), (⟨"PolyRegistersModel", "byteOf", "(IIIIII)I"⟩, 16), (⟨"PolyRegistersModel", "writes", "(I)V"⟩, 16), (⟨"PolyRegistersModel", "writesTerm", "(JI)V"⟩, 16), (⟨"PolyRegistersModel", "writesNumber", "(J)V"⟩, 16)]
theorem lw_r7 : ∀ q ∈ lw_privs_7, lw_okq q := List.forall_mem_cons.mpr ⟨lw_p96, List.forall_mem_cons.mpr ⟨lw_p97, List.forall_mem_cons.mpr ⟨lw_p98, List.forall_mem_cons.mpr ⟨lw_p99, List.forall_mem_cons.mpr ⟨lw_p100, List.forall_mem_cons.mpr ⟨lw_p101, List.forall_mem_cons.mpr ⟨lw_p102, List.forall_mem_cons.mpr ⟨lw_p103, List.forall_mem_cons.mpr ⟨lw_p104, List.forall_mem_cons.mpr ⟨lw_p105, List.forall_mem_cons.mpr ⟨lw_p106, fun _ h => absurd h List.not_mem_nil⟩⟩⟩⟩⟩⟩⟩⟩⟩⟩⟩
def lw_privs : List (MethodName × Nat) := lw_privs_1 ++ (lw_privs_2 ++ (lw_privs_3 ++ (lw_privs_4 ++ (lw_privs_5 ++ (lw_privs_6 ++ (lw_privs_7))))))
def lw_tbl : List Cond := k2_sels lw_privs ++ tables_1
theorem lw_privs_ok : ∀ q ∈ lw_privs, lw_okq q := by
  show ∀ q ∈ lw_privs_1 ++ (lw_privs_2 ++ (lw_privs_3 ++ (lw_privs_4 ++ (lw_privs_5 ++ (lw_privs_6 ++ (lw_privs_7)))))), lw_okq q
  exact List.forall_mem_append.mpr ⟨lw_r1, List.forall_mem_append.mpr ⟨lw_r2, List.forall_mem_append.mpr ⟨lw_r3, List.forall_mem_append.mpr ⟨lw_r4, List.forall_mem_append.mpr ⟨lw_r5, List.forall_mem_append.mpr ⟨lw_r6, lw_r7⟩⟩⟩⟩⟩⟩
/-- the streams that the claim lets the run draw from -/
abbrev lw_cs : List Choice := [Jvm.Choice.named "NaN.bits"]
theorem lw_bits : nanBits ∈ lw_cs := by first | decide | exact List.mem_cons_self | simp [lw_cs, nanBits]
-- ===== end of PART A; then your names; then what follows =====
end
section
/-! ===== BEGIN words of one list among another's, by their places ===== -/
theorem goodIn_r {big : List Cond} (ws : List Cond) (ps : List Nat) (hp : ws = ps.filterMap (fun i => big[i]?)) (h : ws.all goodWord = true) : GoodIn big ws := by
  intro w hw
  have h1 := List.all_eq_true.mp h w hw
  rw [hp] at hw
  obtain ⟨i, -, hi⟩ := List.mem_filterMap.mp hw
  have hm : w ∈ big := by first | exact List.mem_of_getElem? hi | exact List.getElem?_mem hi
  exact ⟨hm, good_of_word h1⟩
theorem goodIn_app {big a b : List Cond} (ha : GoodIn big a) (hb : GoodIn big b) : GoodIn big (a ++ b) := fun w h => (List.mem_append.mp h).elim (ha w) (hb w)
theorem goodIn_ca {big a b : List Cond} {c : Cond} (ha : GoodIn big (c :: a)) (hb : GoodIn big b) : GoodIn big (c :: (a ++ b)) := fun w h => (List.mem_cons.mp h).elim (fun e => ha w (List.mem_cons.mpr (Or.inl e))) (fun h => (List.mem_append.mp h).elim (fun h => ha w (List.mem_cons.mpr (Or.inr h))) (hb w))
theorem goodIn_sub {big ws : List Cond} (hm : ∀ w ∈ ws, w ∈ big) (h : ws.all goodWord = true) : GoodIn big ws := fun w hw => ⟨hm w hw, good_of_word (List.all_eq_true.mp h w hw)⟩
/-! ===== END ===== -/
/-! ===== BEGIN exceptions that leave a method, and their catching by the caller (launches without stack traces) ===== -/
section VXA
/-! The laws vx_back, vx_callV, vx_callS, vx_callSW, vx_throw0, vx_throwS follow proofs of the library, with one case more: JvmDerived/Free/Laws.lean (Back.of_free), Shelf42/LK1.lean (callV, callS), Shelf/KitTraced.lean (throwNew0V, throwNewS). -/
/-- where a method has thrown q: the class by its name, the cell, what was written, the world -/
def vx_T (XC : String → State → State → Prop) (st : State) (q : Addr) (t : State) (mc ms : Nat) (free : Addr → Prop) : Prop :=
  ∃ (E : String) (ce : Cell) (L : List Loc), XC E st t ∧ t.heap[q]? = some ce ∧ ce.vm = .none ∧ st.vm.findClass E = some ce.cls ∧ st.WarmedH t.vm ∧ st.sameButNew ({ t with vm := st.vm } : State) L mc ms ∧ ∀ z ∈ L, free z.base
def vx_Q (Qc : Array Value → State → Outcome → State → Prop) (XC : String → State → State → Prop) (mc ms : Nat) (free : Addr → Prop) : Array Value → State → Outcome → State → Prop := fun a st o t =>
  (Qc a st o t ∧ ∃ L, FrameEnd st o t L mc ms ∧ ∀ q ∈ L, free q.base) ∨ ∃ q, o = .threw q ∧ vx_T XC st q t mc ms free
/-- a callee that returns or throws -/
def vx_Met (l : Launch) (y : MethodName) (ws : List Cond) (rm : Room) (Pc : Array Value → State → Prop) (Qc : Array Value → State → Outcome → State → Prop) (XC : String → State → State → Prop) (mc ms : Nat) (free : Addr → Prop) : Prop :=
  MetFree l y (headSpec ws rm) Pc (fun _ _ _ _ _ => True) (vx_Q Qc XC mc ms free)
def vx_Post (XC : String → State → State → Prop) (mc ms : Nat) (free : Addr → Prop) : Pt → Array Value → Addr → Pt → Prop := fun A a q B =>
  ∃ (g : JFrame) (mk : MethodId) (t : State) (L : List Loc) (E : String) (ce : Cell), B.U.heap = t.heap ∧ B.U.vm = t.vm ∧ XC E (A.U.calling g mk a) t ∧ t.heap[q]? = some ce ∧ ce.vm = .none ∧ A.U.vm.findClass E = some ce.cls ∧ B.locs = A.locs ++ L ∧ (∀ z ∈ L, free z.base) ∧ B.cells = A.cells + mc ∧ B.slots = A.slots + ms
def vx_Back (l : Launch) (R : Room) (p : Program) (e : Env) (below : List Frame) (s : State) (sargs : Array Value) (y : MethodName) (len W9 : Nat)
    (Pre : Pt → Array Value → Prop) (Post : Pt → Array Value → Option Value → Pt → Prop) (PostX : Pt → Array Value → Addr → Pt → Prop) : Prop :=
  ∀ (m : MethodId) (meth : Method) (c : Code) (A : Pt) (g : JFrame) (ig : Instr) (mk : MethodId) (a : Array Value),
    Stand p l e R s m sargs below meth c A.U A.locs A.cells A.slots → g.method = m → g.locals.size = c.maxLocals → decode c.code g.pc = .ok (ig, len) →
    2 * g.monitorRoom + (g.stack.map fun v => v.category).sum ≤ W9 → A.U.methodNamed? y = some mk → Pre A a →
    (∃ (v : Option Value) (B : Pt), Stand p l e R s m sargs below meth c B.U B.locs B.cells B.slots ∧ Post A a v B ∧
      Steps p.tables e below (doInvoke e (A.U.setTop g) [] mk a).1 (B.U.setTop { g with pc := g.pc + len, stack := v.toList ++ g.stack })) ∨
    (∃ (q : Addr) (B : Pt), Stand p l e R s m sargs below meth c B.U B.locs B.cells B.slots ∧ PostX A a q B ∧
      Steps p.tables e below (doInvoke e (A.U.setTop g) [] mk a).1 ((B.U.setTop g).pushFrame (.throwing q)))
section Payer
variable {l : Launch} {R : Room} {p : Program} {e : Env} {below : List Frame} {s : State} {sargs : Array Value} {y : MethodName} {len W9 : Nat}
theorem vx_back {ws : List Cond} {rm : Room} {Pc : Array Value → State → Prop} {Qc : Array Value → State → Outcome → State → Prop} {XC : String → State → State → Prop} {mc ms : Nat} {free : Addr → Prop} {bytes : ByteArray} {maxL : Nat} {ret : Option FieldType}
    (hM : vx_Met l y ws rm Pc Qc XC mc ms free) (hblind : FrameBlind Pc) (hrc : rm.cells = mc) (hrs : rm.slots = ms)
    (hframes : rm.frames + 1 ≤ R.frames) (hlocals : W9 + (maxL + 11) + rm.locals ≤ R.locals)
    (hws : ∀ w ∈ ws, ∀ a' U, s.WarmedH U.vm → w.before a' U = true) (hcode : Cond.code y bytes maxL ret ∈ ws) (hinit : ∀ a' U, s.WarmedH U.vm → (Cond.initialized y.cls).before a' U = true) :
    vx_Back l R p e below s sargs y len W9 (PreOf R mc ms Pc) (PostOf Qc mc ms free) (vx_Post XC mc ms free) := by
  intro m meth c A g ig mk a X hg hsize hdg hW hn hp
  have h1 : (headSpec ws rm).pre.before a A.U = true := atoms_intro fun w hw => hws w hw _ _ X.warmed
  have h2 : (Cond.code y bytes maxL ret).before a A.U = true := hws _ hcode _ _ X.warmed
  have h3 : (Cond.initialized y.cls).before a A.U = true := hinit _ _ X.warmed
  have h4 : A.cells + (headSpec ws rm).room.cells ≤ R.cells := by rw [show (headSpec ws rm).room.cells = mc from hrc]; exact hp.1
  have h5 : A.slots + (headSpec ws rm).room.slots ≤ R.slots := by rw [show (headSpec ws rm).room.slots = ms from hrs]; exact hp.2.1
  have hPc : Pc a (A.U.calling g mk a) := hblind _ _ _ _ hp.2.2
  obtain ⟨U, Ls, c0, s0⟩ := A
  dsimp only [Pt.U, Pt.locs, Pt.cells, Pt.slots] at h1 h2 h3 h4 h5 X hn hPc ⊢
  obtain ⟨methY, cY, hmY, hcY, -, hlY, -, -, -, -⟩ := Cond.code_spec hn h2
  obtain ⟨kY, hkY, -⟩ := className_of_methodNamed hn
  have hinitY : kY.init = .initialized := Cond.initialized_spec (findClass_of_methodNamed hn) hkY h3
  have h : At U g.method c below := by rw [hg]; exact X.here
  have hlocals9 : W9 + (maxL + 11) + (headSpec ws rm).room.locals ≤ R.locals := hlocals
  have happ : (headSpec ws rm).appliesLoose y e.platform (U.calling g mk a) = true :=
    Spec.appliesLoose_calling (g := g) h hdg hn hkY hinitY
      (X.room_calling (g := g) (R' := (headSpec ws rm).room) hsize hmY hcY hframes (by rw [hlY]; omega) h4 h5) h1
  obtain ⟨mid, hmid⟩ := h.above
  have hfr : (U.setTop g).frames = (.java g :: mid) ++ below := by rw [State.frames_setTop' g h.top, hmid]; rfl
  obtain ⟨o, s₂, hsteps, -, hend, hq⟩ := Steps.callFree hM p X.admits X.cas X.clock (acts := []) hfr happ hPc trivial
  have hq' : vx_Q Qc XC mc ms free a (U.calling g mk a) o s₂ := hq
  rw [State.frames_setTop' g h.top] at hend
  obtain ⟨g₀, hg0⟩ := Option.isSome_iff_exists.mp h.top
  obtain ⟨r, hr⟩ := State.topJava?_eq_some.mp hg0
  have hr' : (({ U with heap := s₂.heap, slotsUsed := s₂.slotsUsed } : State).setVm s₂.vm).frames = .java g₀ :: r := hr
  rcases hq' with ⟨hqc, L, hfe, hL⟩ | ⟨q, rfl, E, ce, L, hx, hce, hcv, hcl, hW₂, hsm, hL⟩
  · obtain ⟨⟨v, rfl⟩, hW₂, e2, q2, q3, q4, q5, q6⟩ := id hfe
    have e3 : s₂ = ({ (U.calling g mk a).setFrames s₂.frames with heap := s₂.heap, slotsUsed := s₂.slotsUsed } : State).setVm s₂.vm := by
      have : s₂ = ({ s₂ with vm := (U.calling g mk a).vm } : State).setVm s₂.vm := rfl
      rw [e2] at this
      exact this
    obtain ⟨c₂, i₂, len₂, hc₂, hd₂, hf₂⟩ := hend
    have hW' : U.WarmedH s₂.vm := hW₂
    have hcc : c₂ = c := by
      have h1 : s₂.code? g.method = U.code? g.method := by
        rw [State.code?_eq, State.code?_eq, hW'.alike.method?]
      exact Option.some.inj (hc₂.symm.trans (h1.trans h.code))
    subst hcc
    have hlen : len₂ = len := by rw [hdg] at hd₂; cases hd₂; rfl
    subst hlen
    have hs₂ : s₂ = (({ U with heap := s₂.heap, slotsUsed := s₂.slotsUsed } : State).setVm s₂.vm).setTop { g with pc := g.pc + len₂, stack := v.toList ++ g.stack } := by
      refine e3.trans ?_
      rw [hf₂, State.calling_eq h.top, State.setFrames_setFrames, State.setTop_of_frames _ hr', hr]
      rfl
    have hsame : U.sameButNew ({ U with heap := s₂.heap, slotsUsed := s₂.slotsUsed } : State) L mc ms := by
      refine ⟨?_, q2, q3, q4, q5, q6⟩
      obtain ⟨t, ht, -⟩ := State.frames_cons hr
      show ({ U with heap := s₂.heap, slotsUsed := s₂.slotsUsed } : State) = { U.setFrames U.frames with heap := s₂.heap, slotsUsed := s₂.slotsUsed }
      rw [State.setFrames_self ht]
    subst hg
    refine Or.inl ⟨v, ⟨(({ U with heap := s₂.heap, slotsUsed := s₂.slotsUsed } : State).setVm s₂.vm), Ls ++ L, c0 + mc, s0 + ms⟩,
      ⟨X.admits, X.cas, X.clock, X.frames, X.room, X.hears, X.method, X.code, (X.here.setHeapUsed s₂.heap s₂.slotsUsed).setVm hW'.alike, X.tail, State.WarmedH.trans X.warmed hW', X.limits, X.bytes, X.same.trans (hsame.setVm s.vm)⟩,
      ⟨g, mk, s₂, L, rfl, rfl, hqc, rfl, hL, rfl, rfl⟩, ?_⟩
    show Steps p.tables e below _ ((({ U with heap := s₂.heap, slotsUsed := s₂.slotsUsed } : State).setVm s₂.vm).setTop { g with pc := g.pc + len₂, stack := v.toList ++ g.stack })
    rw [← hs₂]
    exact hsteps
  · obtain ⟨e2, q2, q3, q4, q5, q6⟩ := id hsm
    have e3 : s₂ = ({ (U.calling g mk a).setFrames s₂.frames with heap := s₂.heap, slotsUsed := s₂.slotsUsed } : State).setVm s₂.vm := by
      have : s₂ = ({ s₂ with vm := (U.calling g mk a).vm } : State).setVm s₂.vm := rfl
      rw [e2] at this
      exact this
    have hf₂ : s₂.frames = .throwing q :: .java g :: U.frames.tail := hend
    have hW' : U.WarmedH s₂.vm := hW₂
    have hs₂ : s₂ = ((({ U with heap := s₂.heap, slotsUsed := s₂.slotsUsed } : State).setVm s₂.vm).setTop g).pushFrame (.throwing q) := by
      refine e3.trans ?_
      rw [hf₂, State.calling_eq h.top, State.setFrames_setFrames, State.pushFrame, State.frames_setTop _ hr', State.setTop_of_frames _ hr', State.setFrames_setFrames, hr]
      rfl
    have hsame : U.sameButNew ({ U with heap := s₂.heap, slotsUsed := s₂.slotsUsed } : State) L mc ms := by
      refine ⟨?_, q2, q3, q4, q5, q6⟩
      obtain ⟨t, ht, -⟩ := State.frames_cons hr
      show ({ U with heap := s₂.heap, slotsUsed := s₂.slotsUsed } : State) = { U.setFrames U.frames with heap := s₂.heap, slotsUsed := s₂.slotsUsed }
      rw [State.setFrames_self ht]
    subst hg
    refine Or.inr ⟨q, ⟨(({ U with heap := s₂.heap, slotsUsed := s₂.slotsUsed } : State).setVm s₂.vm), Ls ++ L, c0 + mc, s0 + ms⟩,
      ⟨X.admits, X.cas, X.clock, X.frames, X.room, X.hears, X.method, X.code, (X.here.setHeapUsed s₂.heap s₂.slotsUsed).setVm hW'.alike, X.tail, State.WarmedH.trans X.warmed hW', X.limits, X.bytes, X.same.trans (hsame.setVm s.vm)⟩,
      ⟨g, mk, s₂, L, E, ce, rfl, rfl, hx, hce, hcv, hcl, rfl, hL, rfl, rfl⟩, ?_⟩
    show Steps p.tables e below _ (((({ U with heap := s₂.heap, slotsUsed := s₂.slotsUsed } : State).setVm s₂.vm).setTop g).pushFrame (.throwing q))
    rw [← hs₂]
    exact hsteps
end Payer
section Calls
variable {p : Program} {l : Launch} {e : Env} {R : Room} {s : State} {m : MethodId} {args : Array Value} {below : List Frame} {meth : Method} {c : Code} {T : State} {locs : List Loc} {cells slots : Nat}
theorem vx_callV (X : Stand p l e R s m args below meth c T locs cells slots) (hexec : p.tables.exec = Jvm.exec) {own C : String} {index : Nat} {y : MethodName} {bytes : ByteArray} {maxL : Nat} {ret : Option FieldType}
    (hown : s.vm.findClass own = some m.cls) (hlink : (Cond.methodLink own index y).before args s = true) (hinst : (Cond.instanceMethod y).before args s = true) (hsel : (Cond.selects C y y).before args s = true)
    (hcode : (Cond.code y bytes maxL ret).before args s = true) (hy : y.cls ≠ "java/lang/invoke/MethodHandle" ∧ y.cls ≠ "java/lang/invoke/VarHandle")
    {W9 : Nat} {Pre : Pt → Array Value → Prop} {Post : Pt → Array Value → Option Value → Pt → Prop} {PostX : Pt → Array Value → Addr → Pt → Prop} (hK : vx_Back l R p e below s args y 3 W9 Pre Post PostX)
    {b : Addr} {cellB : Cell} (hcell : T.heap[b]? = some cellB) (hobj : cellB.vm.isStatics = false) (hcls : s.vm.findClass C = some cellB.cls)
    {g : JFrame} (hg : g.method = m) (hsize : g.locals.size = c.maxLocals) {argsL rest : List Value} (hlen : ∀ sig, parseMethodDescriptor y.desc = some sig → argsL.length = sig.parameters.length)
    (hstack : g.stack = argsL.reverse ++ .ref b :: rest) (hW : 2 * g.monitorRoom + (rest.map fun v => v.category).sum ≤ W9) (hdg : decode c.code g.pc = .ok (.invokevirtual index, 3))
    (hpre : ∀ vm₁, s.WarmedH vm₁ → Pre ⟨T.setVm vm₁, locs, cells, slots⟩ (Value.ref b :: argsL).toArray) :
    (∃ (v : Option Value) (vm₁ : Vm) (B : Pt), s.WarmedH vm₁ ∧ Stand p l e R s m args below meth c B.U B.locs B.cells B.slots ∧ Post ⟨T.setVm vm₁, locs, cells, slots⟩ (Value.ref b :: argsL).toArray v B ∧
      ∀ target, Steps p.tables e below (B.U.setTop { g with pc := g.pc + 3, stack := v.toList ++ rest }) target → Steps p.tables e below (T.setTop g) target) ∨
    (∃ (q : Addr) (vm₁ : Vm) (B : Pt), s.WarmedH vm₁ ∧ Stand p l e R s m args below meth c B.U B.locs B.cells B.slots ∧ PostX ⟨T.setVm vm₁, locs, cells, slots⟩ (Value.ref b :: argsL).toArray q B ∧
      Steps p.tables e below (T.setTop g) ((B.U.setTop { g with stack := rest }).pushFrame (.throwing q))) := by
  obtain ⟨mk, methM, hnamed, hmethM, hstM, habM⟩ := Cond.instanceMethod_spec hinst
  obtain ⟨methM', cM, hmethM', -, -, -, -, -, -, hsigM⟩ := Cond.code_spec hnamed hcode
  cases hmethM.symm.trans hmethM'
  obtain ⟨c2, r2, m2, q1, q2, q3, q4, kP, hkP, hkPi⟩ := Cond.selects_spec hsel
  cases hcls.symm.trans q1
  cases (State.methodFound?_of_named hnamed hy).symm.trans q2
  cases hnamed.symm.trans q3
  have hselP : selectMethod e.platform s.vm cellB.cls mk = .method mk := by rw [Launch.admits_selectMethod X.admits]; exact q4
  obtain ⟨vm₁, X₁, hstep₁⟩ := X.invokevirtual hexec hown hlink hnamed hmethM hstM hkP hkPi hy (a := b) (cell := cellB) hcell
    (fun z h => by rw [h] at hobj; cases hobj) hselP hmethM habM hkP hkPi (g := g) hg (argsL := argsL) (rest := rest) (hlen _ hsigM) hstack hdg
  rcases hK m meth c ⟨T.setVm vm₁, locs, cells, slots⟩ { g with stack := rest } (.invokevirtual index) mk (Value.ref b :: argsL).toArray X₁ hg hsize hdg hW (X₁.named hnamed) (hpre vm₁ X₁.warmed) with ⟨v, B, X', hpost, hsteps⟩ | ⟨q, B, X', hpost, hsteps⟩
  · exact Or.inl ⟨v, vm₁, B, X₁.warmed, X', hpost, fun target h => hstep₁ _ fun acts => by rw [doInvoke_state]; exact hsteps.trans h⟩
  · exact Or.inr ⟨q, vm₁, B, X₁.warmed, X', hpost, hstep₁ _ fun acts => by rw [doInvoke_state]; exact hsteps⟩
theorem vx_callS (X : Stand p l e R s m args below meth c T locs cells slots) (hexec : p.tables.exec = Jvm.exec) {own : String} {index : Nat} {y : MethodName} {bytes : ByteArray} {maxL : Nat} {ret : Option FieldType}
    (hown : s.vm.findClass own = some m.cls) (hlink : (Cond.methodLink own index y).before args s = true) (hstat : (Cond.static y).before args s = true) (hinit : (Cond.initialized y.cls).before args s = true)
    (hcode : (Cond.code y bytes maxL ret).before args s = true) (hy : y.cls ≠ "java/lang/invoke/MethodHandle" ∧ y.cls ≠ "java/lang/invoke/VarHandle")
    {W9 : Nat} {Pre : Pt → Array Value → Prop} {Post : Pt → Array Value → Option Value → Pt → Prop} {PostX : Pt → Array Value → Addr → Pt → Prop} (hK : vx_Back l R p e below s args y 3 W9 Pre Post PostX)
    {g : JFrame} (hg : g.method = m) (hsize : g.locals.size = c.maxLocals) {argsL rest : List Value} (hlen : ∀ sig, parseMethodDescriptor y.desc = some sig → argsL.length = sig.parameters.length)
    (hstack : g.stack = argsL.reverse ++ rest) (hW : 2 * g.monitorRoom + (rest.map fun v => v.category).sum ≤ W9) (hdg : decode c.code g.pc = .ok (.invokestatic index, 3))
    (hpre : ∀ vm₁, s.WarmedH vm₁ → Pre ⟨T.setVm vm₁, locs, cells, slots⟩ argsL.toArray) :
    (∃ (v : Option Value) (vm₁ : Vm) (B : Pt), s.WarmedH vm₁ ∧ Stand p l e R s m args below meth c B.U B.locs B.cells B.slots ∧ Post ⟨T.setVm vm₁, locs, cells, slots⟩ argsL.toArray v B ∧
      ∀ target, Steps p.tables e below (B.U.setTop { g with pc := g.pc + 3, stack := v.toList ++ rest }) target → Steps p.tables e below (T.setTop g) target) ∨
    (∃ (q : Addr) (vm₁ : Vm) (B : Pt), s.WarmedH vm₁ ∧ Stand p l e R s m args below meth c B.U B.locs B.cells B.slots ∧ PostX ⟨T.setVm vm₁, locs, cells, slots⟩ argsL.toArray q B ∧
      Steps p.tables e below (T.setTop g) ((B.U.setTop { g with stack := rest }).pushFrame (.throwing q))) := by
  obtain ⟨mk, hnamed⟩ := Cond.code_named hcode
  obtain ⟨methM, cM, hmethM, -, -, -, -, -, -, hsigM⟩ := Cond.code_spec hnamed hcode
  have hstatic : methM.isStatic = true := Cond.static_spec hnamed hmethM hstat
  obtain ⟨kP, hkP, -⟩ := className_of_methodNamed hnamed
  have hinitP : kP.init = .initialized := Cond.initialized_spec (findClass_of_methodNamed hnamed) hkP hinit
  obtain ⟨vm₁, X₁, hstep₁⟩ := X.invokestatic hexec hown hlink hnamed hmethM hstatic hkP hinitP hy (g := g) hg (argsL := argsL) (rest := rest) (hlen _ hsigM) hstack hdg
  rcases hK m meth c ⟨T.setVm vm₁, locs, cells, slots⟩ { g with stack := rest } (.invokestatic index) mk argsL.toArray X₁ hg hsize hdg hW (X₁.named hnamed) (hpre vm₁ X₁.warmed) with ⟨v, B, X', hpost, hsteps⟩ | ⟨q, B, X', hpost, hsteps⟩
  · exact Or.inl ⟨v, vm₁, B, X₁.warmed, X', hpost, fun target h => hstep₁ _ fun acts => by rw [doInvoke_state]; exact hsteps.trans h⟩
  · exact Or.inr ⟨q, vm₁, B, X₁.warmed, X', hpost, hstep₁ _ fun acts => by rw [doInvoke_state]; exact hsteps⟩
end Calls
theorem vx_cls {s : State} {T : State} {vm₁ : Vm} {E : String} {k : ClassId} (hW : s.WarmedH vm₁) (h : (T.setVm vm₁).vm.findClass E = some k) : s.vm.findClass E = some k := by
  have h1 : vm₁.findClass E = some k := h
  rw [hW.alike.findClass] at h1
  exact h1
/-- the method's frame g, with q thrown over it -/
def vx_W (p : Program) (l : Launch) (e : Env) (R : Room) (s : State) (m : MethodId) (args : Array Value) (below : List Frame) (meth : Method) (c : Code) (H : Heap) (locs : List Loc) (cells slots : Nat) (Q : State → Prop) (g : JFrame) (q : Addr) : Prop :=
  ∀ T : State, T.heap = H → Stand p l e R s m args below meth c T locs cells slots → ∃ t, Steps p.tables e below ((T.setTop g).pushFrame (.throwing q)) t ∧ Q t
def vx_Run (p : Program) (l : Launch) (e : Env) (R : Room) (s : State) (m : MethodId) (args : Array Value) (below : List Frame) (meth : Method) (c : Code) (H : Heap) (locs : List Loc) (cells slots mc ms : Nat) (g : JFrame) (rest : List Value) (Qa : State → Outcome → State → Prop) (XC : String → State → State → Prop) (free : Addr → Prop) : Prop :=
  ∀ T : State, T.heap = H → Stand p l e R s m args below meth c T locs cells slots →
    (∃ (v : Option Value) (st₀ t T' : State) (L : List Loc), st₀.heap = H ∧ Stand p l e R s m args below meth c T' (locs ++ L) (cells + mc) (slots + ms) ∧ (∀ q ∈ L, free q.base) ∧ T'.heap = t.heap ∧ T'.vm = t.vm ∧ Qa st₀ (.returned v) t ∧
      Goes p e below T g T' { g with pc := g.pc + 3, stack := v.toList ++ rest }) ∨
    (∃ (q : Addr) (st₀ t T' : State) (L : List Loc) (E : String) (ce : Cell), st₀.heap = H ∧ Stand p l e R s m args below meth c T' (locs ++ L) (cells + mc) (slots + ms) ∧ (∀ z ∈ L, free z.base) ∧ T'.heap = t.heap ∧ T'.vm = t.vm ∧ XC E st₀ t ∧ t.heap[q]? = some ce ∧ ce.vm = .none ∧ s.vm.findClass E = some ce.cls ∧
      Steps p.tables e below (T.setTop g) ((T'.setTop { g with stack := rest }).pushFrame (.throwing q)))
def vx_X {S : Type} (px : S → Prop) (B : String → S → State → Prop) (A : Nat → Prop) : String → State → State → Prop := fun E st t => ∃ u : S, px u ∧ B E u t ∧ va_F A st t
section Runs
variable {p : Program} {l : Launch} {e : Env} {R : Room} {s : State} {m : MethodId} {args : Array Value} {below : List Frame} {meth : Method} {c : Code} {H : Heap} {locs : List Loc} {cells slots : Nat}
variable {y : MethodName} {bytes cc : ByteArray} {maxL nL mc ms n index : Nat} {ret : Option FieldType} {ws : List Cond} {rm : Room} {Pc : Array Value → State → Prop} {Qc : Array Value → State → Outcome → State → Prop} {XC : String → State → State → Prop} {free : Addr → Prop} {Ts : List Cond} {own C : String} {b : Addr} {As rest : List Value} {g : JFrame}
theorem vx_callBack (cb : CallB R s args own index y bytes maxL ret ws rm mc ms n) (hM : vx_Met l y ws rm Pc Qc XC mc ms free) (hbl : FrameBlind Pc) : vx_Back l R p e below s args y 3 8 (PreOf R mc ms Pc) (PostOf Qc mc ms free) (vx_Post XC mc ms free) := by
  obtain ⟨hrc, hrs, hfr, hlo, hws, hcw, -, hini, -⟩ := cb
  exact vx_back (bytes := bytes) (maxL := maxL) (ret := ret) hM hbl hrc hrs hfr hlo hws hcw (fun a' U hW => word_at hW (Or.inl (by first | rfl | simp [Cond.onTables, Cond.keeps, Cond.steady])) hini)
theorem vx_runV (S : CallFix p m c cc nL s args Ts own) (hM : vx_Met l y ws rm Pc Qc XC mc ms free) (cw : CallW R s args own C index y bytes maxL ret ws rm mc ms n) (hp : PreV s H C b Pc As)
    (hg : g.method = m) (hn : As.length = n) (hsize : g.locals.size = nL) (hstack : g.stack = As.reverse ++ .ref b :: rest) (hW : 2 * g.monitorRoom + (rest.map fun v => v.category).sum ≤ 8) (hdg : decode cc g.pc = .ok (.invokevirtual index, 3)) (hf : cells + mc ≤ R.cells ∧ slots + ms ≤ R.slots) :
    vx_Run p l e R s m args below meth c H locs cells slots mc ms g rest (Qc (Value.ref b :: As).toArray) XC free := by
  have hK : vx_Back l R p e below s args y 3 8 (PreOf R mc ms Pc) (PostOf Qc mc ms free) (vx_Post XC mc ms free) := vx_callBack cw.1 hM hp.1
  obtain ⟨⟨-, -, -, -, -, -, hcode, -, hy, hlen, hl⟩, hin, hse⟩ := cw
  obtain ⟨hx, hb, hml, ho, -⟩ := S
  obtain ⟨-, ⟨cellB, hcB, hoB, hclB⟩, hPc⟩ := hp
  intro T hT X
  rcases vx_callV X hx (C := C) (bytes := bytes) (maxL := maxL) (ret := ret) ho hl hin hse hcode hy hK (by rw [hT]; exact hcB) hoB hclB hg (hsize.trans hml.symm) (argsL := As) (rest := rest) (fun sig h => hn.trans (hlen sig h)) hstack hW (by rw [hb]; exact hdg)
    (fun vm₁ hW₁ => ⟨hf.1, hf.2, hPc (T.setVm vm₁) hT hW₁⟩) with ⟨v, vm₁, ⟨U', l2, c2, s2⟩, hW₁, X', ⟨g', mk, t, L, e1, e2, hq, h1, hL, h2, h3⟩, st⟩ | ⟨q, vm₁, ⟨U', l2, c2, s2⟩, hW₁, X', ⟨g', mk, t, L, E, ce, e1, e2, hq, hce, hcv, hcl, h1, hL, h2, h3⟩, st⟩
  · dsimp only [Pt.U, Pt.locs, Pt.cells, Pt.slots] at X' e1 e2 h1 h2 h3 st
    subst h1; subst h2; subst h3
    exact Or.inl ⟨v, (T.setVm vm₁).calling g' mk (Value.ref b :: As).toArray, t, U', L, hT, X', hL, e1, e2, hq, st⟩
  · dsimp only [Pt.U, Pt.locs, Pt.cells, Pt.slots] at X' e1 e2 h1 h2 h3 st hcl
    subst h1; subst h2; subst h3
    exact Or.inr ⟨q, (T.setVm vm₁).calling g' mk (Value.ref b :: As).toArray, t, U', L, E, ce, hT, X', hL, e1, e2, hq, hce, hcv, vx_cls hW₁ hcl, st⟩
theorem vx_runS (S : CallFix p m c cc nL s args Ts own) (hM : vx_Met l y ws rm Pc Qc XC mc ms free) (cw : CallB R s args own index y bytes maxL ret ws rm mc ms n ∧ (Cond.static y).before args s = true) (hp : PreS s H Pc As)
    (hg : g.method = m) (hn : As.length = n) (hsize : g.locals.size = nL) (hstack : g.stack = As.reverse ++ rest) (hW : 2 * g.monitorRoom + (rest.map fun v => v.category).sum ≤ 8) (hdg : decode cc g.pc = .ok (.invokestatic index, 3)) (hf : cells + mc ≤ R.cells ∧ slots + ms ≤ R.slots) :
    vx_Run p l e R s m args below meth c H locs cells slots mc ms g rest (Qc As.toArray) XC free := by
  have hK : vx_Back l R p e below s args y 3 8 (PreOf R mc ms Pc) (PostOf Qc mc ms free) (vx_Post XC mc ms free) := vx_callBack cw.1 hM hp.1
  obtain ⟨⟨-, -, -, -, -, -, hcode, hini, hy, hlen, hl⟩, hstt⟩ := cw
  obtain ⟨hx, hb, hml, ho, -⟩ := S
  intro T hT X
  rcases vx_callS X hx (bytes := bytes) (maxL := maxL) (ret := ret) ho hl hstt hini hcode hy hK hg (hsize.trans hml.symm) (argsL := As) (rest := rest) (fun sig h => hn.trans (hlen sig h)) hstack hW (by rw [hb]; exact hdg)
    (fun vm₁ hW₁ => ⟨hf.1, hf.2, hp.2 (T.setVm vm₁) hT hW₁⟩) with ⟨v, vm₁, ⟨U', l2, c2, s2⟩, hW₁, X', ⟨g', mk, t, L, e1, e2, hq, h1, hL, h2, h3⟩, st⟩ | ⟨q, vm₁, ⟨U', l2, c2, s2⟩, hW₁, X', ⟨g', mk, t, L, E, ce, e1, e2, hq, hce, hcv, hcl, h1, hL, h2, h3⟩, st⟩
  · dsimp only [Pt.U, Pt.locs, Pt.cells, Pt.slots] at X' e1 e2 h1 h2 h3 st
    subst h1; subst h2; subst h3
    exact Or.inl ⟨v, (T.setVm vm₁).calling g' mk As.toArray, t, U', L, hT, X', hL, e1, e2, hq, st⟩
  · dsimp only [Pt.U, Pt.locs, Pt.cells, Pt.slots] at X' e1 e2 h1 h2 h3 st hcl
    subst h1; subst h2; subst h3
    exact Or.inr ⟨q, (T.setVm vm₁).calling g' mk As.toArray, t, U', L, E, ce, hT, X', hL, e1, e2, hq, hce, hcv, vx_cls hW₁ hcl, st⟩
end Runs
section Rows
variable {p : Program} {l : Launch} {e : Env} {R : Room} {s : State} {m : MethodId} {args : Array Value} {below : List Frame} {meth : Method} {c : Code} {H : Heap} {locs : List Loc} {cells slots : Nat} {Q : State → Prop}
variable {mc ms : Nat} {free : Addr → Prop} {A0 A1 : Nat → Prop} {H0 : Heap} {a : Array Value} {pc : Nat} {ls : Array Slot} {st0 rest : List Value}
theorem vx_keep {st₀ t T' : State} {L : List Loc} (h0 : st₀.heap = H) (e1 : T'.heap = t.heap) (hS : va_S A0 H0 H locs) (hA : ∀ q, q < H.size → A1 q → A0 q) (hf : ∀ q, free q → A0 q) (hL : ∀ q ∈ L, free q.base) (hF : va_F A1 st₀ t) :
    H.size ≤ T'.heap.size ∧ (∀ q : Nat, q < H.size → ¬ A1 q → T'.heap[q]? = H[q]?) ∧ va_S A0 H0 T'.heap (locs ++ L) := by
  obtain ⟨hz, hk⟩ := hF
  rw [h0] at hz hk
  exact ⟨by rw [e1]; exact hz, fun q h1 h2 => by rw [e1]; exact hk q h1 h2,
    ⟨Nat.le_trans hS.1 (by rw [e1]; exact hz), fun q h1 h2 => by rw [e1, hk q (Nat.lt_of_lt_of_le h1 hS.1) (fun z => h2 (hA q (Nat.lt_of_lt_of_le h1 hS.1) z))]; exact hS.2.1 q h1 h2, fun q hq => by
      rcases List.mem_append.mp hq with h | h
      · exact hS.2.2 q h
      · exact hf _ (hL q h)⟩⟩
theorem vx_calli {S SX : Type} {post : Int32 → S → Prop} {px : SX → Prop} {B : S → State → Prop} {BX : String → SX → State → Prop} {AX : Nat → Prop} (hr : vx_Run p l e R s m args below meth c H locs cells slots mc ms (F0 m pc ls st0) rest (va_Qi post B A1 a) (vx_X px BX AX) free) (hS : va_S A0 H0 H locs) (hA : ∀ q, q < H.size → A1 q → A0 q) (hf : ∀ q, free q → A0 q) (hAX : ∀ q, q < H.size → AX q → A0 q)
    (kx : ∀ (E : String) (ce : Cell) (q9 : Addr) (u : SX) (t : State) (H1 : Heap) (locs1 : List Loc), t.heap = H1 → s.vm.Alike t.vm → px u → BX E u t → H.size ≤ H1.size → (∀ q : Nat, q < H.size → ¬ AX q → H1[q]? = H[q]?) → va_S A0 H0 H1 locs1 → H1[q9]? = some ce → ce.vm = .none → s.vm.findClass E = some ce.cls → vx_W p l e R s m args below meth c H1 locs1 (cells + mc) (slots + ms) Q (F0 m pc ls rest) q9)
    (kk : ∀ (r : Int32) (u : S) (t : State) (H1 : Heap) (locs1 : List Loc), t.heap = H1 → s.vm.Alike t.vm → post r u → B u t → H.size ≤ H1.size → (∀ q : Nat, q < H.size → ¬ A1 q → H1[q]? = H[q]?) → va_S A0 H0 H1 locs1 → W p l e R s m args below meth c H1 locs1 (cells + mc) (slots + ms) Q (F0 m (pc + 3) ls (.int r :: rest))) : W p l e R s m args below meth c H locs cells slots Q (F0 m pc ls st0) := by
  intro T hT X
  rcases hr T hT X with ⟨v, st₀, t, T', L, h0, X', hL, e1, e2, ⟨⟨r, u, hv, hp, hb⟩, hF⟩, st⟩ | ⟨q, st₀, t, T', L, E, ce, h0, X', hL, e1, e2, ⟨u, hp, hb, hF⟩, hce, hcv, hcl, st⟩
  · cases hv
    obtain ⟨k1, k2, k3⟩ := vx_keep h0 e1 hS hA hf hL hF
    obtain ⟨t2, a1, b1⟩ := kk r u t T'.heap (locs ++ L) e1.symm (by rw [← e2]; exact X'.warmed.alike) hp hb k1 k2 k3 T' rfl X'
    exact ⟨t2, st t2 a1, b1⟩
  · obtain ⟨k1, k2, k3⟩ := vx_keep h0 e1 hS hAX hf hL hF
    obtain ⟨t2, a1, b1⟩ := kx E ce q u t T'.heap (locs ++ L) e1.symm (by rw [← e2]; exact X'.warmed.alike) hp hb k1 k2 k3 (by rw [e1]; exact hce) hcv hcl T' rfl X'
    exact ⟨t2, st.trans a1, b1⟩
theorem vx_calll {S SX : Type} {post : Int64 → S → Prop} {px : SX → Prop} {B : S → State → Prop} {BX : String → SX → State → Prop} {AX : Nat → Prop} (hr : vx_Run p l e R s m args below meth c H locs cells slots mc ms (F0 m pc ls st0) rest (va_Ql post B A1 a) (vx_X px BX AX) free) (hS : va_S A0 H0 H locs) (hA : ∀ q, q < H.size → A1 q → A0 q) (hf : ∀ q, free q → A0 q) (hAX : ∀ q, q < H.size → AX q → A0 q)
    (kx : ∀ (E : String) (ce : Cell) (q9 : Addr) (u : SX) (t : State) (H1 : Heap) (locs1 : List Loc), t.heap = H1 → s.vm.Alike t.vm → px u → BX E u t → H.size ≤ H1.size → (∀ q : Nat, q < H.size → ¬ AX q → H1[q]? = H[q]?) → va_S A0 H0 H1 locs1 → H1[q9]? = some ce → ce.vm = .none → s.vm.findClass E = some ce.cls → vx_W p l e R s m args below meth c H1 locs1 (cells + mc) (slots + ms) Q (F0 m pc ls rest) q9)
    (kk : ∀ (r : Int64) (u : S) (t : State) (H1 : Heap) (locs1 : List Loc), t.heap = H1 → s.vm.Alike t.vm → post r u → B u t → H.size ≤ H1.size → (∀ q : Nat, q < H.size → ¬ A1 q → H1[q]? = H[q]?) → va_S A0 H0 H1 locs1 → W p l e R s m args below meth c H1 locs1 (cells + mc) (slots + ms) Q (F0 m (pc + 3) ls (.long r :: rest))) : W p l e R s m args below meth c H locs cells slots Q (F0 m pc ls st0) := by
  intro T hT X
  rcases hr T hT X with ⟨v, st₀, t, T', L, h0, X', hL, e1, e2, ⟨⟨r, u, hv, hp, hb⟩, hF⟩, st⟩ | ⟨q, st₀, t, T', L, E, ce, h0, X', hL, e1, e2, ⟨u, hp, hb, hF⟩, hce, hcv, hcl, st⟩
  · cases hv
    obtain ⟨k1, k2, k3⟩ := vx_keep h0 e1 hS hA hf hL hF
    obtain ⟨t2, a1, b1⟩ := kk r u t T'.heap (locs ++ L) e1.symm (by rw [← e2]; exact X'.warmed.alike) hp hb k1 k2 k3 T' rfl X'
    exact ⟨t2, st t2 a1, b1⟩
  · obtain ⟨k1, k2, k3⟩ := vx_keep h0 e1 hS hAX hf hL hF
    obtain ⟨t2, a1, b1⟩ := kx E ce q u t T'.heap (locs ++ L) e1.symm (by rw [← e2]; exact X'.warmed.alike) hp hb k1 k2 k3 (by rw [e1]; exact hce) hcv hcl T' rfl X'
    exact ⟨t2, st.trans a1, b1⟩
theorem vx_callf {S SX : Type} {post : UInt32 → S → Prop} {px : SX → Prop} {B : S → State → Prop} {BX : String → SX → State → Prop} {AX : Nat → Prop} (hr : vx_Run p l e R s m args below meth c H locs cells slots mc ms (F0 m pc ls st0) rest (va_Qf post B A1 a) (vx_X px BX AX) free) (hS : va_S A0 H0 H locs) (hA : ∀ q, q < H.size → A1 q → A0 q) (hf : ∀ q, free q → A0 q) (hAX : ∀ q, q < H.size → AX q → A0 q)
    (kx : ∀ (E : String) (ce : Cell) (q9 : Addr) (u : SX) (t : State) (H1 : Heap) (locs1 : List Loc), t.heap = H1 → s.vm.Alike t.vm → px u → BX E u t → H.size ≤ H1.size → (∀ q : Nat, q < H.size → ¬ AX q → H1[q]? = H[q]?) → va_S A0 H0 H1 locs1 → H1[q9]? = some ce → ce.vm = .none → s.vm.findClass E = some ce.cls → vx_W p l e R s m args below meth c H1 locs1 (cells + mc) (slots + ms) Q (F0 m pc ls rest) q9)
    (kk : ∀ (r : UInt32) (u : S) (t : State) (H1 : Heap) (locs1 : List Loc), t.heap = H1 → s.vm.Alike t.vm → post r u → B u t → H.size ≤ H1.size → (∀ q : Nat, q < H.size → ¬ A1 q → H1[q]? = H[q]?) → va_S A0 H0 H1 locs1 → W p l e R s m args below meth c H1 locs1 (cells + mc) (slots + ms) Q (F0 m (pc + 3) ls (.float r :: rest))) : W p l e R s m args below meth c H locs cells slots Q (F0 m pc ls st0) := by
  intro T hT X
  rcases hr T hT X with ⟨v, st₀, t, T', L, h0, X', hL, e1, e2, ⟨⟨r, u, hv, hp, hb⟩, hF⟩, st⟩ | ⟨q, st₀, t, T', L, E, ce, h0, X', hL, e1, e2, ⟨u, hp, hb, hF⟩, hce, hcv, hcl, st⟩
  · cases hv
    obtain ⟨k1, k2, k3⟩ := vx_keep h0 e1 hS hA hf hL hF
    obtain ⟨t2, a1, b1⟩ := kk r u t T'.heap (locs ++ L) e1.symm (by rw [← e2]; exact X'.warmed.alike) hp hb k1 k2 k3 T' rfl X'
    exact ⟨t2, st t2 a1, b1⟩
  · obtain ⟨k1, k2, k3⟩ := vx_keep h0 e1 hS hAX hf hL hF
    obtain ⟨t2, a1, b1⟩ := kx E ce q u t T'.heap (locs ++ L) e1.symm (by rw [← e2]; exact X'.warmed.alike) hp hb k1 k2 k3 (by rw [e1]; exact hce) hcv hcl T' rfl X'
    exact ⟨t2, st.trans a1, b1⟩
theorem vx_calld {S SX : Type} {post : UInt64 → S → Prop} {px : SX → Prop} {B : S → State → Prop} {BX : String → SX → State → Prop} {AX : Nat → Prop} (hr : vx_Run p l e R s m args below meth c H locs cells slots mc ms (F0 m pc ls st0) rest (va_Qd post B A1 a) (vx_X px BX AX) free) (hS : va_S A0 H0 H locs) (hA : ∀ q, q < H.size → A1 q → A0 q) (hf : ∀ q, free q → A0 q) (hAX : ∀ q, q < H.size → AX q → A0 q)
    (kx : ∀ (E : String) (ce : Cell) (q9 : Addr) (u : SX) (t : State) (H1 : Heap) (locs1 : List Loc), t.heap = H1 → s.vm.Alike t.vm → px u → BX E u t → H.size ≤ H1.size → (∀ q : Nat, q < H.size → ¬ AX q → H1[q]? = H[q]?) → va_S A0 H0 H1 locs1 → H1[q9]? = some ce → ce.vm = .none → s.vm.findClass E = some ce.cls → vx_W p l e R s m args below meth c H1 locs1 (cells + mc) (slots + ms) Q (F0 m pc ls rest) q9)
    (kk : ∀ (r : UInt64) (u : S) (t : State) (H1 : Heap) (locs1 : List Loc), t.heap = H1 → s.vm.Alike t.vm → post r u → B u t → H.size ≤ H1.size → (∀ q : Nat, q < H.size → ¬ A1 q → H1[q]? = H[q]?) → va_S A0 H0 H1 locs1 → W p l e R s m args below meth c H1 locs1 (cells + mc) (slots + ms) Q (F0 m (pc + 3) ls (.double r :: rest))) : W p l e R s m args below meth c H locs cells slots Q (F0 m pc ls st0) := by
  intro T hT X
  rcases hr T hT X with ⟨v, st₀, t, T', L, h0, X', hL, e1, e2, ⟨⟨r, u, hv, hp, hb⟩, hF⟩, st⟩ | ⟨q, st₀, t, T', L, E, ce, h0, X', hL, e1, e2, ⟨u, hp, hb, hF⟩, hce, hcv, hcl, st⟩
  · cases hv
    obtain ⟨k1, k2, k3⟩ := vx_keep h0 e1 hS hA hf hL hF
    obtain ⟨t2, a1, b1⟩ := kk r u t T'.heap (locs ++ L) e1.symm (by rw [← e2]; exact X'.warmed.alike) hp hb k1 k2 k3 T' rfl X'
    exact ⟨t2, st t2 a1, b1⟩
  · obtain ⟨k1, k2, k3⟩ := vx_keep h0 e1 hS hAX hf hL hF
    obtain ⟨t2, a1, b1⟩ := kx E ce q u t T'.heap (locs ++ L) e1.symm (by rw [← e2]; exact X'.warmed.alike) hp hb k1 k2 k3 (by rw [e1]; exact hce) hcv hcl T' rfl X'
    exact ⟨t2, st.trans a1, b1⟩
theorem vx_callv {S SX : Type} {post : S → Prop} {px : SX → Prop} {B : S → State → Prop} {BX : String → SX → State → Prop} {AX : Nat → Prop} (hr : vx_Run p l e R s m args below meth c H locs cells slots mc ms (F0 m pc ls st0) rest (va_Qv post B A1 a) (vx_X px BX AX) free) (hS : va_S A0 H0 H locs) (hA : ∀ q, q < H.size → A1 q → A0 q) (hf : ∀ q, free q → A0 q) (hAX : ∀ q, q < H.size → AX q → A0 q)
    (kx : ∀ (E : String) (ce : Cell) (q9 : Addr) (u : SX) (t : State) (H1 : Heap) (locs1 : List Loc), t.heap = H1 → s.vm.Alike t.vm → px u → BX E u t → H.size ≤ H1.size → (∀ q : Nat, q < H.size → ¬ AX q → H1[q]? = H[q]?) → va_S A0 H0 H1 locs1 → H1[q9]? = some ce → ce.vm = .none → s.vm.findClass E = some ce.cls → vx_W p l e R s m args below meth c H1 locs1 (cells + mc) (slots + ms) Q (F0 m pc ls rest) q9)
    (kk : ∀ (u : S) (t : State) (H1 : Heap) (locs1 : List Loc), t.heap = H1 → s.vm.Alike t.vm → post u → B u t → H.size ≤ H1.size → (∀ q : Nat, q < H.size → ¬ A1 q → H1[q]? = H[q]?) → va_S A0 H0 H1 locs1 → W p l e R s m args below meth c H1 locs1 (cells + mc) (slots + ms) Q (F0 m (pc + 3) ls (rest))) : W p l e R s m args below meth c H locs cells slots Q (F0 m pc ls st0) := by
  intro T hT X
  rcases hr T hT X with ⟨v, st₀, t, T', L, h0, X', hL, e1, e2, ⟨⟨u, hv, hp, hb⟩, hF⟩, st⟩ | ⟨q, st₀, t, T', L, E, ce, h0, X', hL, e1, e2, ⟨u, hp, hb, hF⟩, hce, hcv, hcl, st⟩
  · cases hv
    obtain ⟨k1, k2, k3⟩ := vx_keep h0 e1 hS hA hf hL hF
    obtain ⟨t2, a1, b1⟩ := kk u t T'.heap (locs ++ L) e1.symm (by rw [← e2]; exact X'.warmed.alike) hp hb k1 k2 k3 T' rfl X'
    exact ⟨t2, st t2 a1, b1⟩
  · obtain ⟨k1, k2, k3⟩ := vx_keep h0 e1 hS hAX hf hL hF
    obtain ⟨t2, a1, b1⟩ := kx E ce q u t T'.heap (locs ++ L) e1.symm (by rw [← e2]; exact X'.warmed.alike) hp hb k1 k2 k3 (by rw [e1]; exact hce) hcv hcl T' rfl X'
    exact ⟨t2, st.trans a1, b1⟩
/-- caught by the row x of this method's table; the rows ahead don't take it -/
theorem vx_catch {own name : String} {E : String} {ce : Cell} {q : Addr} (hown : s.vm.findClass own = some m.cls) (pre : List ExceptionTableEntry) (x : ExceptionTableEntry) (suf : List ExceptionTableEntry) (hsplit : c.exceptionTable.toList = pre ++ x :: suf)
    (hpass : ∀ z ∈ pre, covers z pc = false ∨ (z.catchType ≠ 0 ∧ ∃ nm : String, (Cond.classLink own z.catchType nm).before args s = true ∧ va_Nc E nm s)) (hx : covers x pc = true) (h0 : x.catchType ≠ 0)
    (hlink : (Cond.classLink own x.catchType name).before args s = true) (hcast : (Cond.castable E name).before args s = true) (hcell : H[q]? = some ce) (hv : ce.vm = .none) (hcl : s.vm.findClass E = some ce.cls)
    (kk : W p l e R s m args below meth c H locs cells slots Q (F0 m x.handlerPc ls [.ref q])) : vx_W p l e R s m args below meth c H locs cells slots Q (F0 m pc ls rest) q := by
  intro T hT X
  have hpl : e.platform.magicAccessors = ({} : Platform).magicAccessors := by rw [X.admits.platform]
  obtain ⟨c3, c4, hc3, hc4, hasg⟩ := Cond.castable_spec hcast
  cases Option.some.inj (hc3.symm.trans hcl)
  obtain ⟨c5, hc5, hcl5⟩ := Cond.classLink_spec hown hlink e.platform hpl
  cases Option.some.inj (hc4.symm.trans hc5)
  obtain ⟨vm', X', st⟩ := X.thenCaughtThrough q (g := F0 m pc ls rest) rfl (Steps.refl _) (by rw [hT]; exact hcell) (by rw [hv]; rfl) (by obtain ⟨k9, h9, -⟩ := Vm.findClass_spec hcl; exact ⟨k9, h9⟩) pre x suf hsplit
    (fun z hz => by
      rcases hpass z hz with h | ⟨hz0, nm, hl1, hn1⟩
      · exact Or.inl h
      · obtain ⟨c6, hc6, hcl6⟩ := Cond.classLink_spec hown hl1 e.platform hpl
        obtain ⟨a8, b8, h1, h2, h3⟩ := hn1
        cases Option.some.inj (h1.symm.trans hcl)
        cases Option.some.inj (h2.symm.trans hc6)
        exact Or.inr ⟨hz0, _, hcl6, h3⟩) hx (Or.inr ⟨h0, c4, hcl5, hasg⟩)
  obtain ⟨t, a1, b1⟩ := kk (T.setVm vm') hT X'
  exact ⟨t, st.trans a1, b1⟩
end Rows
section Ends
variable {p : Program} {l : Launch} {e : Env} {R : Room} {s : State} {m : MethodId} {args : Array Value} {below : List Frame} {meth : Method} {c : Code} {H : Heap} {locs : List Loc} {cells slots : Nat} {Q : State → Prop}
variable {mc ms : Nat} {free : Addr → Prop} {A0 A1 : Nat → Prop} {H0 : Heap} {a : Array Value} {ls : Array Slot} {st0 rest : List Value}
variable {Qc : Array Value → State → Outcome → State → Prop} {XC : String → State → State → Prop}
/-- what a body that may throw owes at its end -/
def vx_MQ (below : List Frame) (Qc : Array Value → State → Outcome → State → Prop) (XC : String → State → State → Prop) (a : Array Value) (s : State) (mc ms : Nat) (free : Addr → Prop) : State → Prop := fun t =>
  ∃ o, t.status = .running ∧ Ended t below o ∧ vx_Q Qc XC mc ms free a s o t
theorem vx_ret {g : JFrame} {mc ms : Nat} (k : W p l e R s m args below meth c H locs cells slots (MQ below Qc args s mc ms free) g) : W p l e R s m args below meth c H locs cells slots (vx_MQ below Qc XC args s mc ms free) g := by
  intro T hT X
  obtain ⟨t, a1, o, b1, b2, b3, b4⟩ := k T hT X
  exact ⟨t, a1, o, b1, b2, Or.inl ⟨b3, b4⟩⟩
/-- not caught here: it goes on to the caller -/
theorem vx_widen {g : JFrame} {q : Addr} {k n : Nat} (h1 : cells ≤ k) (h2 : slots ≤ n) (kk : vx_W p l e R s m args below meth c H locs k n Q g q) : vx_W p l e R s m args below meth c H locs cells slots Q g q := fun T hT X => kk T hT (stand_widen X h1 h2)
theorem vx_out {pc : Nat} {E : String} {ce : Cell} {q : Addr} {mc ms : Nat} (hout : ∀ x ∈ c.exceptionTable.toList, covers x pc = false) (hlocks : meth.locks = false) (hcell : H[q]? = some ce) (hv : ce.vm = .none) (hcl : s.vm.findClass E = some ce.cls)
    (hx : ∀ t : State, t.heap = H → s.vm.Alike t.vm → XC E s t) (hf : ∀ z ∈ locs, free z.base) (hc : cells ≤ mc) (hs : slots ≤ ms) :
    vx_W p l e R s m args below meth c H locs cells slots (vx_MQ below Qc XC args s mc ms free) (F0 m pc ls rest) q := by
  intro T hT X
  obtain ⟨st1, hrun, hend, hW, hsm⟩ := X.leaveThrown q (g := F0 m pc ls rest) rfl rfl rfl hout hlocks
  have hcell9 : (T.setFrames (.throwing q :: below)).heap[q]? = some ce := by
    show T.heap[q]? = some ce
    rw [hT]; exact hcell
  exact ⟨_, st1, .threw q, hrun, hend, Or.inr ⟨q, rfl, E, ce, locs, hx _ hT hW.alike, hcell9, hv, hcl, hW, hsm.mono hc hs, hf⟩⟩
theorem vx_frame {U : State} {k n : Nat} (h : s.sameButNew ({ U with vm := s.vm } : State) locs k n) : s.heap.size ≤ U.heap.size ∧ ∀ q : Nat, q < s.heap.size → (∀ z ∈ locs, z.base ≠ q) → U.heap[q]? = s.heap[q]? := by
  obtain ⟨-, h2, -, -, -, h6⟩ := h
  refine ⟨h2, fun q hq hz => ?_⟩
  obtain ⟨c9, e1, e2, e3, e4⟩ := h6 q _ (Array.getElem?_eq_getElem hq)
  have hs : c9.slots = (s.heap[q]).slots := Array.ext_getElem? fun i => e4 i fun hm => hz _ hm rfl
  have h9 : c9 = s.heap[q] := by
    rw [hs] at e2
    exact e2
  have e5 : U.heap[q]? = some c9 := e1
  rw [e5, h9, Array.getElem?_eq_getElem hq]
/-- the words of a throw but the four that speak of the heap -/
def vx_no (w : Cond) : Bool := decide (w ≠ .isRef (.static Bundle.tN "UNASSIGNED_STACK" Bundle.steD)) && decide (w ≠ .isRef (.static Bundle.tN "SUPPRESSED_SENTINEL" Bundle.listD)) && decide (w ≠ .laysStatic Bundle.tN "UNASSIGNED_STACK" Bundle.steD) && decide (w ≠ .laysStatic Bundle.tN "SUPPRESSED_SENTINEL" Bundle.listD)
def vx_at0 (own : String) (ic : Nat) (X : String) (names : List String) : List Cond := (Bundle.ownAtoms0 own ic X names).filter vx_no
def vx_atS (own : String) (ic : Nat) (X : String) (names : List String) : List Cond := (Bundle.ownAtoms own ic X names).filter vx_no
/-- a word that the tables alone decide, or a good one -/
def vx_ot (w : Cond) : Bool := w.onTables || goodWord w
theorem vx_ot_at {args a' : Array Value} {s U : State} {w : Cond} (hW : s.WarmedH U.vm) (hvm : s.vm = U.vm) (hg : vx_ot w = true) (h : w.before args s = true) : w.before a' U = true := by
  simp only [vx_ot, Bool.or_eq_true] at hg
  rcases hg with hg | hg
  · exact va_tabs hg hvm h
  · exact word_at hW (good_of_word hg) h
/-- a list's words: the good ones out of the method's own list, the others by premises of their own -/
theorem vx_hat {args : Array Value} {s : State} {L B : List Cond} (h1 : ∀ w ∈ L.filter goodWord, w.before args s = true) (h2 : ∀ w ∈ L.filter (fun w => !goodWord w), w ∈ B) (h3 : ∀ w ∈ B, w.before args s = true) : ∀ w ∈ L, w.before args s = true := by
  intro w hw
  by_cases g : goodWord w = true
  · exact h1 w (List.mem_filter.mpr ⟨hw, g⟩)
  · refine h3 w (h2 w (List.mem_filter.mpr ⟨hw, ?_⟩))
    show (!goodWord w) = true
    cases hgw : goodWord w
    · rfl
    · exact absurd hgw g
theorem vx_c {args : Array Value} {s : State} {w : Cond} {B : List Cond} (h : w.before args s = true) (t : ∀ w ∈ B, w.before args s = true) : ∀ w' ∈ w :: B, w'.before args s = true := fun w' h' => (List.mem_cons.mp h').elim (fun e => by rw [e]; exact h) (t w')
theorem vx_n {args : Array Value} {s : State} : ∀ w ∈ ([] : List Cond), w.before args s = true := fun _ h => nomatch h
theorem vx_own {args : Array Value} {s : State} {L : List Cond} (h1 : ∀ w ∈ L.filter vx_no, w.before args s = true)
    (hU : (Cond.isRef (.static Bundle.tN "UNASSIGNED_STACK" Bundle.steD)).before args s = true) (hN : (Cond.isRef (.static Bundle.tN "SUPPRESSED_SENTINEL" Bundle.listD)).before args s = true)
    (lU : (Cond.laysStatic Bundle.tN "UNASSIGNED_STACK" Bundle.steD).before args s = true) (lN : (Cond.laysStatic Bundle.tN "SUPPRESSED_SENTINEL" Bundle.listD).before args s = true) : ∀ w ∈ L, w.before args s = true := by
  intro w hw
  by_cases e1 : w = .isRef (.static Bundle.tN "UNASSIGNED_STACK" Bundle.steD)
  · rw [e1]; exact hU
  · by_cases e2 : w = .isRef (.static Bundle.tN "SUPPRESSED_SENTINEL" Bundle.listD)
    · rw [e2]; exact hN
    · by_cases e3 : w = .laysStatic Bundle.tN "UNASSIGNED_STACK" Bundle.steD
      · rw [e3]; exact lU
      · by_cases e4 : w = .laysStatic Bundle.tN "SUPPRESSED_SENTINEL" Bundle.listD
        · rw [e4]; exact lN
        · exact h1 w (List.mem_filter.mpr ⟨hw, by unfold vx_no; rw [decide_eq_true e1, decide_eq_true e2, decide_eq_true e3, decide_eq_true e4]; rfl⟩)
/-- where a static field lies, its class's statics cell in H -/
def vx_L (C n d : String) (A : Nat → Prop) (U : State) (H : Heap) : Prop := ∃ (c : ClassId) (k : Class) (i : Nat) (f : Field) (a : Nat) (cell : Cell), U.vm.findClass C = some c ∧ U.fieldFound? C n d = some (c, k, i, f) ∧ f.isStatic = true ∧ k.statics = some a ∧ H[a]? = some cell ∧ cell.vm.isStatics = true ∧ cell.cls = c ∧ f.slot < cell.slots.size ∧ k.staticTypes[f.slot]? = some f.type ∧ ¬ A a
theorem vx_L.moved {C n d : String} {A : Nat → Prop} {u U : State} {H : Heap} (hvm : u.vm.Alike U.vm) (h : vx_L C n d A u H) : vx_L C n d A U H := by
  obtain ⟨c, k, i, f, a, cell, h1, h2, h3, h4, h5, h6, h7, h8, h9, h10⟩ := h
  obtain ⟨k', hi', he⟩ := State.fieldFound?_setVm hvm h2
  exact ⟨c, k', i, f, a, cell, by rw [hvm.findClass]; exact h1, hi', h3, by rw [he]; exact h4, h5, h6, h7, h8, by rw [he]; exact h9, h10⟩
theorem vx_L.kept {C n d : String} {A : Nat → Prop} {U : State} {H H1 : Heap} (h : vx_L C n d A U H) (hq : ∀ a : Nat, a < H.size → ¬ A a → H1[a]? = H[a]?) : vx_L C n d A U H1 := by
  obtain ⟨c, k, i, f, a, cell, h1, h2, h3, h4, h5, h6, h7, h8, h9, h10⟩ := h
  exact ⟨c, k, i, f, a, cell, h1, h2, h3, h4, by rw [hq a (Array.getElem?_eq_some_iff.mp h5).1 h10]; exact h5, h6, h7, h8, h9, h10⟩
theorem vx_L.narrow {C n d : String} {A B : Nat → Prop} {U : State} {H : Heap} (h : vx_L C n d A U H) (hAB : ∀ q, B q → A q) : vx_L C n d B U H := by
  obtain ⟨c, k, i, f, a, cell, h1, h2, h3, h4, h5, h6, h7, h8, h9, h10⟩ := h
  exact ⟨c, k, i, f, a, cell, h1, h2, h3, h4, h5, h6, h7, h8, h9, fun z => h10 (hAB _ z)⟩
theorem vx_L.word {C n d : String} {A : Nat → Prop} {s : State} {args : Array Value} (h : vx_L C n d A s s.heap) : (Cond.laysStatic C n d).before args s = true := by
  obtain ⟨c, k, i, f, a, cell, h1, h2, h3, h4, h5, h6, h7, h8, h9, -⟩ := h
  show (Cond.laysStatic C n d).holds args s none s [] = true
  exact Cond.laysStatic_of h1 h2 h3 h4 h5 h6 h7 h8 h9
/-- .. and what it holds: null or some reference -/
def vx_Zq (C n d : String) (A : Nat → Prop) (U : State) (H : Heap) : Prop := va_Zq C n d A U H ∧ vx_L C n d A U H
theorem vx_Zq.moved {C n d : String} {A : Nat → Prop} {u U : State} {H : Heap} (hvm : u.vm.Alike U.vm) (h : vx_Zq C n d A u H) : vx_Zq C n d A U H := ⟨va_Zq.moved hvm h.1, vx_L.moved hvm h.2⟩
theorem vx_Zq.kept {C n d : String} {A : Nat → Prop} {U : State} {H H1 : Heap} (h : vx_Zq C n d A U H) (hq : ∀ a : Nat, a < H.size → ¬ A a → H1[a]? = H[a]?) : vx_Zq C n d A U H1 := ⟨va_Zq.kept h.1 hq, vx_L.kept h.2 hq⟩
theorem vx_Zq.narrow {C n d : String} {A B : Nat → Prop} {U : State} {H : Heap} (h : vx_Zq C n d A U H) (hAB : ∀ q, B q → A q) : vx_Zq C n d B U H := ⟨va_Zq.narrow h.1 hAB, vx_L.narrow h.2 hAB⟩
theorem vx_Zqof {args : Array Value} {s : State} {C n d : String} {A : Nat → Prop} (hl : (Cond.laysStatic C n d).before args s = true) (hini : (Cond.initialized C).before args s = true) (h : (Cond.isRef (.static C n d)).before args s = true) (hA : ∀ a : Nat, a < s.heap.size → ¬ A a) : vx_Zq C n d A s s.heap := by
  refine ⟨va_Zqof hl hini h hA, ?_⟩
  obtain ⟨c, k, i, f, a, cell, h1, h2, h3, h4, h5, h6, h7, h8, h9⟩ := Cond.laysStatic_spec hl
  exact ⟨c, k, i, f, a, cell, h1, h2, h3, h4, h5, h6, h7, h8, h9, hA a (Array.getElem?_eq_some_iff.mp h5).1⟩
theorem vx_isRef {C n d : String} {v : Value} {A : Nat → Prop} {s : State} {args : Array Value} (h : va_Z C n d v A s s.heap) (hv : v.isRef = true) : (Cond.isRef (.static C n d)).before args s = true := by
  obtain ⟨cf, kf, fi, f, a, cell, h1, h2, h3, h4, h5, h6, h7, -⟩ := h
  have he : (Term.static C n d).eval args s none [] s = some v := by
    simp [Term.eval, State.fieldNamed?, h1, h2, h4, h5, h6, h7]
  simp only [Cond.before, Cond.holds, Cond.value, he]
  cases v <;> simp_all [Value.isRef]
theorem vx_isRefq {C n d : String} {A : Nat → Prop} {s : State} {args : Array Value} (h : va_Zq C n d A s s.heap) : (Cond.isRef (.static C n d)).before args s = true := by
  rcases h with h | ⟨t, h⟩
  · exact vx_isRef h rfl
  · exact vx_isRef h rfl
/-- the same frame, seen from here: as if the method were called anew in this heap -/
theorem vx_rebase {T : State} (X : Stand p l e R s m args below meth c T locs cells slots) {R' : Room} (hf : R'.frames ≤ R.frames) (hl : R'.locals ≤ R.locals) (hc : cells + R'.cells ≤ R.cells) (hs : slots + R'.slots ≤ R.slots) :
    Stand p l e R' ((T.setVm s.vm).setFrames (.invoking m args :: below)) m args below meth c T [] 0 0 := by
  have htop : (T.setVm s.vm).topJava?.isSome := X.here.top
  have hF : ((T.setVm s.vm).setFrames (.invoking m args :: below)).frames = .invoking m args :: below := State.frames_setFrames _ (State.cur_lt_of_top htop)
  obtain ⟨g₀, hg0⟩ := Option.isSome_iff_exists.mp htop
  obtain ⟨r, hr⟩ := State.topJava?_eq_some.mp hg0
  have hl9 : e.platform.stackLimits (T.setVm s.vm).me = e.platform.stackLimits s.me := X.limits
  have hb9 : (T.setVm s.vm).me.stackBytes = s.me.stackBytes := X.bytes
  refine ⟨X.admits, X.cas, X.clock, hF, ?_, X.hears, X.method, X.code, X.here, X.tail, X.warmed, ?_, ?_, ?_⟩
  · have h := X.room
    have hU : ((T.setVm s.vm).setFrames (.invoking m args :: below)).localsInUse = s.localsInUse := by
      rw [State.localsInUse_invoking hF (meth := meth) (c := c) X.method X.code, State.localsInUse_invoking X.frames X.method X.code]
    simp only [State.hasRoom, Bool.and_eq_true, decide_eq_true_eq] at h ⊢
    obtain ⟨⟨⟨⟨h1, h2, h3, h4, h5, h6⟩, h7⟩, h8⟩, h9⟩ := h
    rw [X.frames, List.length_cons] at h2 h3
    have q1 := X.heapSize
    have q2 := X.used
    simp only [hF, hU, List.length_cons, State.stackLimits_setFrames, State.stackBytes_setFrames, hl9, hb9]
    refine ⟨⟨⟨⟨by omega, by omega, by omega, by omega, by omega, h6⟩, ?_⟩, ?_⟩, X.book⟩
    · show T.heap.size + R'.cells ≤ e.platform.maxCells
      omega
    · show T.slotsUsed + R'.slots ≤ e.platform.maxSlots
      omega
  · rw [State.stackLimits_setFrames]; rfl
  · rw [State.stackBytes_setFrames]; rfl
  · refine ⟨?_, Nat.le_refl _, Nat.le_refl _, ?_, ?_, fun a c9 h9 => ⟨c9, h9, rfl, rfl, fun _ _ => rfl⟩⟩
    · obtain ⟨t, ht, -⟩ := State.frames_cons hr
      show T.setVm s.vm = { ((T.setVm s.vm).setFrames (.invoking m args :: below)).setFrames (T.setVm s.vm).frames with heap := T.heap, slotsUsed := T.slotsUsed }
      rw [State.setFrames_setFrames, State.setFrames_self ht]
      rfl
    · show T.slotsUsed = T.slotsUsed + ((T.heap.toList.drop T.heap.size).map (·.slots.size)).sum
      rw [List.drop_eq_nil_of_le (Nat.le_of_eq Array.length_toList)]
      rfl
    · show ((T.heap.toList.drop T.heap.size).map (·.slots.size)).sum ≤ 0
      rw [List.drop_eq_nil_of_le (Nat.le_of_eq Array.length_toList)]
      exact Nat.le_refl _
/-- 'throw new E()': new; dup; invokespecial; athrow -/
theorem vx_throw0 {cc : ByteArray} {pc : Nat} (hexec : p.tables.exec = Jvm.exec) (hb : c.code = cc) (hl : l.stackTraces = false) {own cls : String} {names : List String} {ik ic mc ms : Nat} {A : Nat → Prop}
    (hown : s.vm.findClass own = some m.cls) (hcls : Bundle.fit cls = true) (hnames : ∀ n ∈ names, Bundle.fit n = true)
    (hk : (Cond.classLink own ik cls).before args s = true) (hini : (Cond.initialized cls).before args s = true) (hat : ∀ w ∈ vx_at0 own ic cls names, w.before args s = true)
    (hgood : ∀ w ∈ Cond.classLink own ik cls :: Cond.initialized cls :: vx_at0 own ic cls names, vx_ot w = true)
    (hU : vx_Zq Bundle.tN "UNASSIGNED_STACK" Bundle.steD A s s.heap) (hN : vx_Zq Bundle.tN "SUPPRESSED_SENTINEL" Bundle.listD A s s.heap) (hS : va_S A s.heap H locs) (hsize : ls.size = c.maxLocals)
    (d0 : decode cc pc = .ok (.new ik, 3)) (d3 : decode cc (pc + 3) = .ok (.dup, 1)) (d4 : decode cc (pc + 4) = .ok (.invokespecial ic, 3)) (d7 : decode cc (pc + 7) = .ok (.athrow, 1))
    (hout : ∀ x ∈ c.exceptionTable.toList, covers x (pc + 7) = false)
    (hRframes : names.length + 3 < R.frames) (hRlocals : (rest.map fun v => v.category).sum + (13 * (names.length + 1) + 42) ≤ R.locals) (hRcells : cells + 1 ≤ R.cells) (hRslots : slots + 6 ≤ R.slots) (hlocks : meth.locks = false)
    (hx : ∀ t : State, s.vm.Alike t.vm → H.size ≤ t.heap.size → (∀ q : Nat, q < H.size → t.heap[q]? = H[q]?) → XC cls s t)
    (hf : ∀ z ∈ locs, free z.base) (hc : cells + 1 ≤ mc) (hs : slots + 6 ≤ ms) :
    W p l e R s m args below meth c H locs cells slots (vx_MQ below Qc XC args s mc ms free) (F0 m pc ls rest) := by
  intro T hT X
  have htr : e.platform.stackTraces = false := (show e.platform.stackTraces = l.stackTraces by rw [X.admits.platform]).trans hl
  have Y := vx_rebase X (R' := { frames := R.frames, locals := R.locals, cells := 1, slots := 6 }) (Nat.le_refl _) (Nat.le_refl _) hRcells hRslots
  obtain ⟨s', hA⟩ : ∃ z, z = (T.setVm s.vm).setFrames (.invoking m args :: below) := ⟨_, rfl⟩
  rw [← hA] at Y
  have hvm : s'.vm = s.vm := by rw [hA]; rfl
  have hhp : s'.heap = H := by rw [hA]; exact hT
  have hW0 : s.WarmedH s'.vm := by rw [hvm]; exact State.WarmedH.refl s
  have hat' : ∀ w ∈ vx_at0 own ic cls names, w.before args s' = true := fun w hw => vx_ot_at hW0 hvm.symm (hgood w (List.mem_cons_of_mem _ (List.mem_cons_of_mem _ hw))) (hat w hw)
  have hk' : (Cond.classLink own ik cls).before args s' = true := vx_ot_at hW0 hvm.symm (hgood _ List.mem_cons_self) hk
  have hini' : (Cond.initialized cls).before args s' = true := vx_ot_at hW0 hvm.symm (hgood _ (List.mem_cons_of_mem _ List.mem_cons_self)) hini
  have hU' : vx_Zq Bundle.tN "UNASSIGNED_STACK" Bundle.steD A s' s'.heap := by rw [hhp]; exact vx_Zq.moved hW0.alike (hU.kept hS.2.1)
  have hN' : vx_Zq Bundle.tN "SUPPRESSED_SENTINEL" Bundle.listD A s' s'.heap := by rw [hhp]; exact vx_Zq.moved hW0.alike (hN.kept hS.2.1)
  have h : ∀ w ∈ Bundle.ownAtoms0 own ic cls names, w.before args s' = true := vx_own hat' (vx_isRefq hU'.1) (vx_isRefq hN'.1) hU'.2.word hN'.2.word
  have hown' : s'.vm.findClass own = some m.cls := by rw [hvm]; exact hown
  have hins : (Cond.instantiable cls 6).before args s' = true := h _ (by simp [Bundle.ownAtoms0])
  obtain ⟨vm₁, cX, kX, hfX, hkX, -, -, X₁, st1⟩ := Y.newCold hexec (own := own) (C := cls) (index := ik) (n := 6) hown' hk' hins hini'
    (g := F0 m pc ls rest) rfl (by rw [hb]; exact d0) (Nat.le_refl _) (Nat.le_refl _)
  generalize hT1 : (T.setVm vm₁).pushCell { cls := cX, slots := kX.instanceTypes.map defaultValue, vm := .none } = T1 at X₁ st1
  have hcat : (Value.ref T.heap.size).category = 1 := rfl
  have hcellA : T1.heap[T.heap.size]? = some (freshCell cX kX) := by rw [← hT1]; exact State.heap_pushCell_size _ _
  have d3' : decode c.code (pc + 3) = .ok (.dup, 1) := by rw [hb]; exact d3
  obtain ⟨U, hsteps, hrun, hend, hW, hsame, ce, hce, hO⟩ := X₁.ctorThrow0 hexec htr (own := own) (cls := cls) (names := names) (ic := ic) hown' hcls hnames h (fun x hx => nomatch hx) hfX hkX hcellA (by rw [hhp, hT]; exact Nat.le_refl _)
    (g := { method := m, pc := pc + 4, locals := ls, stack := .ref T.heap.size :: .ref T.heap.size :: rest, locked := none }) rfl hsize rfl rfl (rest := rest) rfl
    (by rw [hb]; exact d4) (by rw [hb]; exact d7) hout hRframes (by simp only [List.map_cons, List.sum_cons, hcat]; omega) hlocks
  obtain ⟨f1, f2⟩ := vx_frame hsame
  rw [hhp] at f1 f2
  have hWs : s.WarmedH U.vm := State.WarmedH.trans hW0 hW
  have hcl : s.vm.findClass cls = some ce.cls := by
    have h9 := hO.cls
    rw [hvm] at h9
    exact h9
  have hall : s.sameButNew ({ U with vm := s.vm } : State) locs mc ms := by
    subst hA
    obtain ⟨e1, e2⟩ := hsame
    rw [State.setFrames_setFrames] at e1
    have h2 : (T.setVm s.vm).sameButNew ({ U with vm := s.vm } : State) [] (0 + 1) (0 + 6) := ⟨e1, e2⟩
    have h3 := X.same.trans h2
    rw [List.append_nil] at h3
    exact h3.mono hc hs
  refine ⟨U, ?_, .threw T.heap.size, hrun, hend, Or.inr ⟨T.heap.size, rfl, cls, ce, locs, hx U hWs.alike f1 (fun q hq => f2 q hq (fun z hz => nomatch hz)), hce, hO.vm, hcl, hWs, hall, hf⟩⟩
  refine st1 _ ?_
  show Steps p.tables e below (T1.setTop { method := m, pc := pc + 3, locals := ls, stack := .ref T.heap.size :: rest, locked := none }) _
  jvm_step X₁.here [X₁.here.top, hexec, d3', Value.category]
  exact hsteps
/-- 'throw new E("text")': new; dup; ldc; invokespecial; athrow -/
theorem vx_throwS {cc : ByteArray} {pc : Nat} (hexec : p.tables.exec = Jvm.exec) (hb : c.code = cc) (hl : l.stackTraces = false) {own cls text : String} {names : List String} {ik is ic mc ms sa : Nat} {A : Nat → Prop}
    (hown : s.vm.findClass own = some m.cls) (hcls : Bundle.fit cls = true) (hnames : ∀ n ∈ names, Bundle.fit n = true)
    (hk : (Cond.classLink own ik cls).before args s = true) (hini : (Cond.initialized cls).before args s = true) (hstr : vk_R own is text sa s) (hat : ∀ w ∈ vx_atS own ic cls names, w.before args s = true)
    (hgood : ∀ w ∈ Cond.classLink own ik cls :: Cond.initialized cls :: vx_atS own ic cls names, vx_ot w = true)
    (hU : vx_Zq Bundle.tN "UNASSIGNED_STACK" Bundle.steD A s s.heap) (hN : vx_Zq Bundle.tN "SUPPRESSED_SENTINEL" Bundle.listD A s s.heap) (hS : va_S A s.heap H locs) (hsize : ls.size = c.maxLocals)
    (d0 : decode cc pc = .ok (.new ik, 3)) (d3 : decode cc (pc + 3) = .ok (.dup, 1)) (d4 : decode cc (pc + 4) = .ok (.ldc is, 2)) (d6 : decode cc (pc + 6) = .ok (.invokespecial ic, 3)) (d9 : decode cc (pc + 9) = .ok (.athrow, 1))
    (hout : ∀ x ∈ c.exceptionTable.toList, covers x (pc + 9) = false)
    (hRframes : names.length + 3 < R.frames) (hRlocals : (rest.map fun v => v.category).sum + (13 * (names.length + 1) + 43) ≤ R.locals) (hRcells : cells + 1 ≤ R.cells) (hRslots : slots + 6 ≤ R.slots) (hlocks : meth.locks = false)
    (hx : ∀ t : State, s.vm.Alike t.vm → H.size ≤ t.heap.size → (∀ q : Nat, q < H.size → t.heap[q]? = H[q]?) → XC cls s t)
    (hf : ∀ z ∈ locs, free z.base) (hc : cells + 1 ≤ mc) (hs : slots + 6 ≤ ms) :
    W p l e R s m args below meth c H locs cells slots (vx_MQ below Qc XC args s mc ms free) (F0 m pc ls rest) := by
  intro T hT X
  have htr : e.platform.stackTraces = false := (show e.platform.stackTraces = l.stackTraces by rw [X.admits.platform]).trans hl
  have Y := vx_rebase X (R' := { frames := R.frames, locals := R.locals, cells := 1, slots := 6 }) (Nat.le_refl _) (Nat.le_refl _) hRcells hRslots
  obtain ⟨s', hA⟩ : ∃ z, z = (T.setVm s.vm).setFrames (.invoking m args :: below) := ⟨_, rfl⟩
  rw [← hA] at Y
  have hvm : s'.vm = s.vm := by rw [hA]; rfl
  have hhp : s'.heap = H := by rw [hA]; exact hT
  have hW0 : s.WarmedH s'.vm := by rw [hvm]; exact State.WarmedH.refl s
  have hat' : ∀ w ∈ vx_atS own ic cls names, w.before args s' = true := fun w hw => vx_ot_at hW0 hvm.symm (hgood w (List.mem_cons_of_mem _ (List.mem_cons_of_mem _ hw))) (hat w hw)
  have hk' : (Cond.classLink own ik cls).before args s' = true := vx_ot_at hW0 hvm.symm (hgood _ List.mem_cons_self) hk
  have hini' : (Cond.initialized cls).before args s' = true := vx_ot_at hW0 hvm.symm (hgood _ (List.mem_cons_of_mem _ List.mem_cons_self)) hini
  have hU' : vx_Zq Bundle.tN "UNASSIGNED_STACK" Bundle.steD A s' s'.heap := by rw [hhp]; exact vx_Zq.moved hW0.alike (hU.kept hS.2.1)
  have hN' : vx_Zq Bundle.tN "SUPPRESSED_SENTINEL" Bundle.listD A s' s'.heap := by rw [hhp]; exact vx_Zq.moved hW0.alike (hN.kept hS.2.1)
  have h : ∀ w ∈ Bundle.ownAtoms own ic cls names, w.before args s' = true := vx_own hat' (vx_isRefq hU'.1) (vx_isRefq hN'.1) hU'.2.word hN'.2.word
  have hown' : s'.vm.findClass own = some m.cls := by rw [hvm]; exact hown
  have hins : (Cond.instantiable cls 6).before args s' = true := h _ (by simp [Bundle.ownAtoms])
  obtain ⟨vm₁, cX, kX, hfX, hkX, -, -, X₁, st1⟩ := Y.newCold hexec (own := own) (C := cls) (index := ik) (n := 6) hown' hk' hins hini'
    (g := F0 m pc ls rest) rfl (by rw [hb]; exact d0) (Nat.le_refl _) (Nat.le_refl _)
  generalize hT1 : (T.setVm vm₁).pushCell { cls := cX, slots := kX.instanceTypes.map defaultValue, vm := .none } = T1 at X₁ st1
  have hcat : (Value.ref T.heap.size).category = 1 := rfl
  have hcellA : T1.heap[T.heap.size]? = some (freshCell cX kX) := by rw [← hT1]; exact State.heap_pushCell_size _ _
  have d3' : decode c.code (pc + 3) = .ok (.dup, 1) := by rw [hb]; exact d3
  have d4' : decode c.code (pc + 4) = .ok (.ldc is, 2) := by rw [hb]; exact d4
  have hstr' : vk_R own is text sa s' := vk_R.warm hW0 hstr
  obtain ⟨U, hsteps, hrun, hend, hW, hsame, ce, hce, hO⟩ := X₁.ctorThrowS hexec htr (own := own) (cls := cls) (names := names) (ic := ic) hown' hcls hnames h (fun x hx => nomatch hx) hfX hkX hcellA (by rw [hhp, hT]; exact Nat.le_refl _) (msg := .ref sa) rfl
    (g := { method := m, pc := pc + 6, locals := ls, stack := .ref sa :: .ref T.heap.size :: .ref T.heap.size :: rest, locked := none }) rfl hsize rfl rfl (rest := rest) rfl
    (by rw [hb]; exact d6) (by rw [hb]; exact d9) hout hRframes (by simp only [List.map_cons, List.sum_cons, hcat]; omega) hlocks
  obtain ⟨f1, f2⟩ := vx_frame hsame
  rw [hhp] at f1 f2
  have hWs : s.WarmedH U.vm := State.WarmedH.trans hW0 hW
  have hcl : s.vm.findClass cls = some ce.cls := by
    have h9 := hO.cls
    rw [hvm] at h9
    exact h9
  have hall : s.sameButNew ({ U with vm := s.vm } : State) locs mc ms := by
    subst hA
    obtain ⟨e1, e2⟩ := hsame
    rw [State.setFrames_setFrames] at e1
    have h2 : (T.setVm s.vm).sameButNew ({ U with vm := s.vm } : State) [] (0 + 1) (0 + 6) := ⟨e1, e2⟩
    have h3 := X.same.trans h2
    rw [List.append_nil] at h3
    exact h3.mono hc hs
  refine ⟨U, ?_, .threw T.heap.size, hrun, hend, Or.inr ⟨T.heap.size, rfl, cls, ce, locs, hx U hWs.alike f1 (fun q hq => f2 q hq (fun z hz => nomatch hz)), hce, hO.vm, hcl, hWs, hall, hf⟩⟩
  refine st1 _ ?_
  show Steps p.tables e below (T1.setTop { method := m, pc := pc + 3, locals := ls, stack := .ref T.heap.size :: rest, locked := none }) _
  jvm_step X₁.here [X₁.here.top, hexec, d3', Value.category]
  exact X₁.ldcString hexec (own := own) (text := text) (index := is) (a := sa) hown' hstr'.1 hstr'.2
    (g := { method := m, pc := pc + 4, locals := ls, stack := .ref T.heap.size :: .ref T.heap.size :: rest, locked := none }) rfl d4' _ hsteps
/-- 'throw new E("text")', the text by a wide index -/
theorem vx_throwSW {cc : ByteArray} {pc : Nat} (hexec : p.tables.exec = Jvm.exec) (hb : c.code = cc) (hl : l.stackTraces = false) {own cls text : String} {names : List String} {ik is ic mc ms sa : Nat} {A : Nat → Prop}
    (hown : s.vm.findClass own = some m.cls) (hcls : Bundle.fit cls = true) (hnames : ∀ n ∈ names, Bundle.fit n = true)
    (hk : (Cond.classLink own ik cls).before args s = true) (hini : (Cond.initialized cls).before args s = true) (hstr : vk_R own is text sa s) (hat : ∀ w ∈ vx_atS own ic cls names, w.before args s = true)
    (hgood : ∀ w ∈ Cond.classLink own ik cls :: Cond.initialized cls :: vx_atS own ic cls names, vx_ot w = true)
    (hU : vx_Zq Bundle.tN "UNASSIGNED_STACK" Bundle.steD A s s.heap) (hN : vx_Zq Bundle.tN "SUPPRESSED_SENTINEL" Bundle.listD A s s.heap) (hS : va_S A s.heap H locs) (hsize : ls.size = c.maxLocals)
    (d0 : decode cc pc = .ok (.new ik, 3)) (d3 : decode cc (pc + 3) = .ok (.dup, 1)) (d4 : decode cc (pc + 4) = .ok (.ldc_w is, 3)) (d7 : decode cc (pc + 7) = .ok (.invokespecial ic, 3)) (d10 : decode cc (pc + 10) = .ok (.athrow, 1))
    (hout : ∀ x ∈ c.exceptionTable.toList, covers x (pc + 10) = false)
    (hRframes : names.length + 3 < R.frames) (hRlocals : (rest.map fun v => v.category).sum + (13 * (names.length + 1) + 43) ≤ R.locals) (hRcells : cells + 1 ≤ R.cells) (hRslots : slots + 6 ≤ R.slots) (hlocks : meth.locks = false)
    (hx : ∀ t : State, s.vm.Alike t.vm → H.size ≤ t.heap.size → (∀ q : Nat, q < H.size → t.heap[q]? = H[q]?) → XC cls s t)
    (hf : ∀ z ∈ locs, free z.base) (hc : cells + 1 ≤ mc) (hs : slots + 6 ≤ ms) :
    W p l e R s m args below meth c H locs cells slots (vx_MQ below Qc XC args s mc ms free) (F0 m pc ls rest) := by
  intro T hT X
  have htr : e.platform.stackTraces = false := (show e.platform.stackTraces = l.stackTraces by rw [X.admits.platform]).trans hl
  have Y := vx_rebase X (R' := { frames := R.frames, locals := R.locals, cells := 1, slots := 6 }) (Nat.le_refl _) (Nat.le_refl _) hRcells hRslots
  obtain ⟨s', hA⟩ : ∃ z, z = (T.setVm s.vm).setFrames (.invoking m args :: below) := ⟨_, rfl⟩
  rw [← hA] at Y
  have hvm : s'.vm = s.vm := by rw [hA]; rfl
  have hhp : s'.heap = H := by rw [hA]; exact hT
  have hW0 : s.WarmedH s'.vm := by rw [hvm]; exact State.WarmedH.refl s
  have hat' : ∀ w ∈ vx_atS own ic cls names, w.before args s' = true := fun w hw => vx_ot_at hW0 hvm.symm (hgood w (List.mem_cons_of_mem _ (List.mem_cons_of_mem _ hw))) (hat w hw)
  have hk' : (Cond.classLink own ik cls).before args s' = true := vx_ot_at hW0 hvm.symm (hgood _ List.mem_cons_self) hk
  have hini' : (Cond.initialized cls).before args s' = true := vx_ot_at hW0 hvm.symm (hgood _ (List.mem_cons_of_mem _ List.mem_cons_self)) hini
  have hU' : vx_Zq Bundle.tN "UNASSIGNED_STACK" Bundle.steD A s' s'.heap := by rw [hhp]; exact vx_Zq.moved hW0.alike (hU.kept hS.2.1)
  have hN' : vx_Zq Bundle.tN "SUPPRESSED_SENTINEL" Bundle.listD A s' s'.heap := by rw [hhp]; exact vx_Zq.moved hW0.alike (hN.kept hS.2.1)
  have h : ∀ w ∈ Bundle.ownAtoms own ic cls names, w.before args s' = true := vx_own hat' (vx_isRefq hU'.1) (vx_isRefq hN'.1) hU'.2.word hN'.2.word
  have hown' : s'.vm.findClass own = some m.cls := by rw [hvm]; exact hown
  have hins : (Cond.instantiable cls 6).before args s' = true := h _ (by simp [Bundle.ownAtoms])
  obtain ⟨vm₁, cX, kX, hfX, hkX, -, -, X₁, st1⟩ := Y.newCold hexec (own := own) (C := cls) (index := ik) (n := 6) hown' hk' hins hini'
    (g := F0 m pc ls rest) rfl (by rw [hb]; exact d0) (Nat.le_refl _) (Nat.le_refl _)
  generalize hT1 : (T.setVm vm₁).pushCell { cls := cX, slots := kX.instanceTypes.map defaultValue, vm := .none } = T1 at X₁ st1
  have hcat : (Value.ref T.heap.size).category = 1 := rfl
  have hcellA : T1.heap[T.heap.size]? = some (freshCell cX kX) := by rw [← hT1]; exact State.heap_pushCell_size _ _
  have d3' : decode c.code (pc + 3) = .ok (.dup, 1) := by rw [hb]; exact d3
  have d4' : decode c.code (pc + 4) = .ok (.ldc_w is, 3) := by rw [hb]; exact d4
  have hstr' : vk_R own is text sa s' := vk_R.warm hW0 hstr
  obtain ⟨U, hsteps, hrun, hend, hW, hsame, ce, hce, hO⟩ := X₁.ctorThrowS hexec htr (own := own) (cls := cls) (names := names) (ic := ic) hown' hcls hnames h (fun x hx => nomatch hx) hfX hkX hcellA (by rw [hhp, hT]; exact Nat.le_refl _) (msg := .ref sa) rfl
    (g := { method := m, pc := pc + 7, locals := ls, stack := .ref sa :: .ref T.heap.size :: .ref T.heap.size :: rest, locked := none }) rfl hsize rfl rfl (rest := rest) rfl
    (by rw [hb]; exact d7) (by rw [hb]; exact d10) hout hRframes (by simp only [List.map_cons, List.sum_cons, hcat]; omega) hlocks
  obtain ⟨f1, f2⟩ := vx_frame hsame
  rw [hhp] at f1 f2
  have hWs : s.WarmedH U.vm := State.WarmedH.trans hW0 hW
  have hcl : s.vm.findClass cls = some ce.cls := by
    have h9 := hO.cls
    rw [hvm] at h9
    exact h9
  have hall : s.sameButNew ({ U with vm := s.vm } : State) locs mc ms := by
    subst hA
    obtain ⟨e1, e2⟩ := hsame
    rw [State.setFrames_setFrames] at e1
    have h2 : (T.setVm s.vm).sameButNew ({ U with vm := s.vm } : State) [] (0 + 1) (0 + 6) := ⟨e1, e2⟩
    have h3 := X.same.trans h2
    rw [List.append_nil] at h3
    exact h3.mono hc hs
  refine ⟨U, ?_, .threw T.heap.size, hrun, hend, Or.inr ⟨T.heap.size, rfl, cls, ce, locs, hx U hWs.alike f1 (fun q hq => f2 q hq (fun z hz => nomatch hz)), hce, hO.vm, hcl, hWs, hall, hf⟩⟩
  refine st1 _ ?_
  show Steps p.tables e below (T1.setTop { method := m, pc := pc + 3, locals := ls, stack := .ref T.heap.size :: rest, locked := none }) _
  jvm_step X₁.here [X₁.here.top, hexec, d3', Value.category]
  exact X₁.ldcStringW hexec (own := own) (text := text) (index := is) (a := sa) hown' hstr'.1 hstr'.2
    (g := { method := m, pc := pc + 4, locals := ls, stack := .ref T.heap.size :: .ref T.heap.size :: rest, locked := none }) rfl d4' _ hsteps
end Ends
section Bodies
variable {l : Launch}
theorem vx_ofW {y : MethodName} {ws ws' : List Cond} {rm : Room} {Pc : Array Value → State → Prop} {Qc : Array Value → State → Outcome → State → Prop} {XC : String → State → State → Prop} {mc ms : Nat} {free : Addr → Prop} {cc : ByteArray} {maxL : Nat} {ret : Option FieldType}
    (hy : plainName y.cls = true) (hw : ws = Cond.code y cc maxL ret :: ws')
    (body : ∀ p e s m args below meth c s₁, BodyLoose p l y (headSpec ws rm) cc maxL ret e s m args below meth c s₁ → c.maxLocals = maxL → (∀ x ∈ c.exceptionTable.toList, False) → Pc args s →
      W p l e (headSpec ws rm).room s m args below meth c s.heap [] 0 0 (vx_MQ below Qc XC args s mc ms free) (entryFrame m args maxL)) : vx_Met l y ws rm Pc Qc XC mc ms free := by
  refine MetFree.of_bodyS (code := cc) (maxLocals := maxL) (ret := ret) hy ?_ ?_
  · intro args s m h hn
    obtain ⟨meth, c, h1, h2, h3, h4, h5, h6, -, -⟩ := Cond.code_spec hn (atoms_spec (ws := ws) h _ (by rw [hw]; exact List.mem_cons_self))
    exact ⟨meth, c, h1, h2, h3, h4, h5, h6⟩
  · intro p e s m args below meth c s₁ B hml hP _
    have hh0 : s₁.heap = s.heap := by rw [B.state]; rfl
    have ht : ∀ x ∈ c.exceptionTable.toList, False := by
      obtain ⟨meth9, c9, h1, h2, -, -, -, -, h7, -⟩ := Cond.code_spec B.named (atoms_spec (ws := ws) B.pre _ (by rw [hw]; exact List.mem_cons_self))
      cases Option.some.inj (h1.symm.trans B.method)
      cases Option.some.inj (h2.symm.trans (Stand.of_body B).code)
      intro x hx
      rw [Array.isEmpty_iff.mp h7] at hx
      cases hx
    obtain ⟨t, a1, o, b1, b2, b3⟩ := body p e s m args below meth c s₁ B hml ht hP s₁ hh0 (Stand.of_body B)
    exact ⟨t, o, a1, b1, b2, b3⟩
/-- the table of a body with handlers -/
theorem vx_table {p : Program} {x y : MethodName} {S : Spec} {cc bytes : ByteArray} {maxL maxL' : Nat} {ret ret' : Option FieldType} {e : Env} {s s₁ : State} {m : MethodId} {args : Array Value} {below : List Frame} {meth : Method} {c : Code} {hh : List (Nat × Nat × Nat × Nat)}
    (B : BodyLoose p l y S cc maxL ret e s m args below meth c s₁) (h : (Cond.codeWith y bytes maxL' ret' hh).before args s = true) : c.exceptionTable.toList = tableOf hh := by
  obtain ⟨m9, meth9, c9, hn9, h1, h2, -, -, h6, -⟩ := Cond.codeWith_spec h
  cases Option.some.inj (hn9.symm.trans B.named)
  cases Option.some.inj (h1.symm.trans B.method)
  cases Option.some.inj (h2.symm.trans (Stand.of_body B).code)
  rw [← h6, table_eq]
end Bodies
end VXA
/-! ===== END ===== -/
/-! ===== BEGIN a static call of a method with an exception table ===== -/
section VXS
variable {p : Program} {l : Launch} {e : Env} {R : Room} {s : State} {m : MethodId} {args : Array Value} {below : List Frame} {meth : Method} {c : Code} {T : State} {H : Heap} {locs : List Loc} {cells slots : Nat}
abbrev vx_CSW (R : Room) (s : State) (args : Array Value) (own : String) (index : Nat) (y : MethodName) (bytes : ByteArray) (maxL : Nat) (ret : Option FieldType) (hh : List (Nat × Nat × Nat × Nat)) (ws : List Cond) (rm : Room) (mc ms n : Nat) : Prop :=
  (rm.cells = mc ∧ rm.slots = ms ∧ rm.frames + 1 ≤ R.frames ∧ 8 + (maxL + 11) + rm.locals ≤ R.locals ∧ (∀ w ∈ ws, ∀ (a' : Array Value) (U : State), s.WarmedH U.vm → w.before a' U = true) ∧ Cond.codeWith y bytes maxL ret hh ∈ ws) ∧
  (Cond.codeWith y bytes maxL ret hh).before args s = true ∧ (Cond.initialized y.cls).before args s = true ∧ (y.cls ≠ "java/lang/invoke/MethodHandle" ∧ y.cls ≠ "java/lang/invoke/VarHandle") ∧
  (∀ sig, parseMethodDescriptor y.desc = some sig → n = sig.parameters.length) ∧ (Cond.methodLink own index y).before args s = true ∧ (Cond.static y).before args s = true
theorem vx_cwSW {own : String} {index maxL mc ms : Nat} {y : MethodName} {bytes : ByteArray} {ret : Option FieldType} {hh : List (Nat × Nat × Nat × Nat)} {Ts ws ws' : List Cond} {rm : Room} (n : Nat) (ht : ∀ w ∈ Ts, w.before args s = true) (hT : GoodIn Ts (va_wsS own index y ws)) (hw : ws = Cond.codeWith y bytes maxL ret hh :: ws') (hrc : rm.cells = mc) (hrs : rm.slots = ms)
    (hd : y.cls ≠ "java/lang/invoke/MethodHandle" ∧ y.cls ≠ "java/lang/invoke/VarHandle" ∧ (parseMethodDescriptor y.desc).map (fun d => d.parameters.length) = some n) (hR : rm.frames + 1 ≤ R.frames ∧ 8 + (maxL + 11) + rm.locals ≤ R.locals) :
    vx_CSW R s args own index y bytes maxL ret hh ws rm mc ms n := by
  have ok : ∀ w ∈ va_wsS own index y ws, w.before args s = true := fun w h => ht w (hT w h).1
  have hG : GoodIn Ts ws := fun w h => hT w (by unfold va_wsS; exact List.mem_append_right _ h)
  have hc : Cond.codeWith y bytes maxL ret hh ∈ ws := by rw [hw]; exact List.mem_cons_self
  refine ⟨⟨hrc, hrs, hR.1, hR.2, pay_in ht hG, hc⟩, ht _ (hG _ hc).1, ok _ (by simp [va_wsS]), ⟨hd.1, hd.2.1⟩, fun sig h => ?_, ok _ (by simp [va_wsS]), ok _ (by simp [va_wsS])⟩
  have h2 := hd.2.2
  rw [h] at h2
  exact (Option.some.inj h2).symm
theorem vx_callSW (X : Stand p l e R s m args below meth c T locs cells slots) (hexec : p.tables.exec = Jvm.exec) {own : String} {index : Nat} {y : MethodName} {bytes : ByteArray} {maxL : Nat} {ret : Option FieldType} {hh : List (Nat × Nat × Nat × Nat)}
    (hown : s.vm.findClass own = some m.cls) (hlink : (Cond.methodLink own index y).before args s = true) (hstat : (Cond.static y).before args s = true) (hinit : (Cond.initialized y.cls).before args s = true)
    (hcode : (Cond.codeWith y bytes maxL ret hh).before args s = true) (hy : y.cls ≠ "java/lang/invoke/MethodHandle" ∧ y.cls ≠ "java/lang/invoke/VarHandle")
    {W9 : Nat} {Pre : Pt → Array Value → Prop} {Post : Pt → Array Value → Option Value → Pt → Prop} (hK : Back l R p e below s args y 3 W9 Pre Post)
    {g : JFrame} (hg : g.method = m) (hsize : g.locals.size = c.maxLocals) {argsL rest : List Value} (hlen : ∀ sig, parseMethodDescriptor y.desc = some sig → argsL.length = sig.parameters.length)
    (hstack : g.stack = argsL.reverse ++ rest) (hW : 2 * g.monitorRoom + (rest.map fun v => v.category).sum ≤ W9) (hdg : decode c.code g.pc = .ok (.invokestatic index, 3))
    (hpre : ∀ vm₁, s.WarmedH vm₁ → Pre ⟨T.setVm vm₁, locs, cells, slots⟩ argsL.toArray) :
    ∃ (v : Option Value) (vm₁ : Vm) (B : Pt), s.WarmedH vm₁ ∧ Stand p l e R s m args below meth c B.U B.locs B.cells B.slots ∧ Post ⟨T.setVm vm₁, locs, cells, slots⟩ argsL.toArray v B ∧
      ∀ target, Steps p.tables e below (B.U.setTop { g with pc := g.pc + 3, stack := v.toList ++ rest }) target → Steps p.tables e below (T.setTop g) target := by
  obtain ⟨mk, methM, cM, hnamed, hmethM, -, -, -, -, -, -, hsigM⟩ := Cond.codeWith_spec hcode
  have hstatic : methM.isStatic = true := Cond.static_spec hnamed hmethM hstat
  obtain ⟨kP, hkP, -⟩ := className_of_methodNamed hnamed
  have hinitP : kP.init = .initialized := Cond.initialized_spec (findClass_of_methodNamed hnamed) hkP hinit
  obtain ⟨vm₁, X₁, hstep₁⟩ := X.invokestatic hexec hown hlink hnamed hmethM hstatic hkP hinitP hy (g := g) hg (argsL := argsL) (rest := rest) (hlen _ hsigM) hstack hdg
  obtain ⟨v, B, X', hpost, hsteps⟩ := hK m meth c ⟨T.setVm vm₁, locs, cells, slots⟩ { g with stack := rest } (.invokestatic index) mk argsL.toArray X₁ hg hsize hdg hW (X₁.named hnamed) (hpre vm₁ X₁.warmed)
  exact ⟨v, vm₁, B, X₁.warmed, X', hpost, fun target h => hstep₁ _ fun acts => by rw [doInvoke_state]; exact hsteps.trans h⟩
theorem vx_runSW {y : MethodName} {bytes cc : ByteArray} {maxL nL mc ms n index : Nat} {ret : Option FieldType} {hh : List (Nat × Nat × Nat × Nat)} {ws : List Cond} {rm : Room} {Pc : Array Value → State → Prop} {Qc : Array Value → State → Outcome → State → Prop} {free : Addr → Prop} {Ts : List Cond} {own : String} {As rest : List Value} {g : JFrame}
    (S : CallFix p m c cc nL s args Ts own) (hM : Met l y ws rm Pc Qc mc ms free) (cw : vx_CSW R s args own index y bytes maxL ret hh ws rm mc ms n) (hp : PreS s H Pc As)
    (hg : g.method = m) (hn : As.length = n) (hsize : g.locals.size = nL) (hstack : g.stack = As.reverse ++ rest) (hW : 2 * g.monitorRoom + (rest.map fun v => v.category).sum ≤ 8) (hdg : decode cc g.pc = .ok (.invokestatic index, 3)) (hf : cells + mc ≤ R.cells ∧ slots + ms ≤ R.slots) :
    va_Run p l e R s m args below meth c H locs cells slots mc ms g rest (Qc As.toArray) (free) := by
  obtain ⟨⟨hrc, hrs, hfr, hlo, hws, hcw⟩, hcode, hini, hy, hlen, hl, hstt⟩ := cw
  have hK : Back l R p e below s args y 3 8 (PreOf R mc ms Pc) (PostOf Qc mc ms free) := va_backW (hh := hh) (bytes := bytes) (maxL := maxL) (ret := ret) hM hp.1 hrc hrs hfr hlo hws hcw (fun a' U hW => word_at hW (Or.inl (by first | rfl | simp [Cond.onTables, Cond.keeps, Cond.steady])) hini)
  obtain ⟨hx, hb, hml, ho, -⟩ := S
  intro T hT X
  obtain ⟨v, vm₁, ⟨U', l2, c2, s2⟩, hW₁, X', ⟨g', mk, t, L, e1, e2, hq, h1, hL, h2, h3⟩, st⟩ := vx_callSW X hx (hh := hh) (bytes := bytes) (maxL := maxL) (ret := ret) ho hl hstt hini hcode hy hK hg (hsize.trans hml.symm) (argsL := As) (rest := rest) (fun sig h => hn.trans (hlen sig h)) hstack hW (by rw [hb]; exact hdg)
    (fun vm₁ hW₁ => ⟨hf.1, hf.2, hp.2 (T.setVm vm₁) hT hW₁⟩)
  dsimp only [Pt.U, Pt.locs, Pt.cells, Pt.slots] at X' e1 e2 h1 h2 h3 st
  subst h1; subst h2; subst h3
  exact ⟨v, (T.setVm vm₁).calling g' mk As.toArray, t, U', L, hT, X', hL, e1, e2, hq, st⟩
/-- not caught here, past rows that name other classes: it goes on to the caller -/
theorem vx_outP {p : Program} {l : Launch} {e : Env} {R : Room} {s : State} {m : MethodId} {args : Array Value} {below : List Frame} {meth : Method} {c : Code} {H : Heap} {locs : List Loc} {cells slots : Nat} {free : Addr → Prop} {ls : Array Slot} {rest : List Value} {Qc : Array Value → State → Outcome → State → Prop} {XC : String → State → State → Prop}
    {pc : Nat} {own E : String} {ce : Cell} {q : Addr} {mc ms : Nat} (hown : s.vm.findClass own = some m.cls) (hlocks : meth.locks = false)
    (hpass : ∀ z ∈ c.exceptionTable.toList, covers z pc = false ∨ (z.catchType ≠ 0 ∧ ∃ nm : String, (Cond.classLink own z.catchType nm).before args s = true ∧ va_Nc E nm s)) (hcell : H[q]? = some ce) (hv : ce.vm = .none) (hcl : s.vm.findClass E = some ce.cls)
    (hx : ∀ t : State, t.heap = H → s.vm.Alike t.vm → XC E s t) (hf : ∀ z ∈ locs, free z.base) (hc : cells ≤ mc) (hs : slots ≤ ms) :
    vx_W p l e R s m args below meth c H locs cells slots (vx_MQ below Qc XC args s mc ms free) (F0 m pc ls rest) q := by
  intro T hT X
  have hpl : e.platform.magicAccessors = ({} : Platform).magicAccessors := by rw [X.admits.platform]
  obtain ⟨vm', hW', X', st⟩ := X.outThrough hlocks q (g := F0 m pc ls rest) rfl rfl rfl (cell := ce) (by rw [hT]; exact hcell) (by rw [hv]; rfl)
    (by obtain ⟨k9, h9, -⟩ := Vm.findClass_spec hcl; exact ⟨k9, h9⟩) (fun z hz => by
      rcases hpass z hz with h | ⟨hz0, nm, hl1, hn1⟩
      · exact Or.inl h
      · obtain ⟨c6, hc6, hcl6⟩ := Cond.classLink_spec hown hl1 e.platform hpl
        obtain ⟨a8, b8, h1, h2, h3⟩ := hn1
        cases Option.some.inj (h1.symm.trans hcl)
        cases Option.some.inj (h2.symm.trans hc6)
        exact Or.inr ⟨hz0, _, hcl6, h3⟩)
  obtain ⟨g₀, hfr⟩ := X'.frames_eq
  have hcell9 : ((T.setVm vm').setFrames (.throwing q :: below)).heap[q]? = some ce := by
    show T.heap[q]? = some ce
    rw [hT]; exact hcell
  have hend : Ended ((T.setVm vm').setFrames (.throwing q :: below)) below (.threw q) := State.frames_setFrames _ (State.cur_lt_of_frames hfr)
  refine ⟨(T.setVm vm').setFrames (.throwing q :: below), ?_, .threw q, X'.here.running, hend, Or.inr ⟨q, rfl, E, ce, locs, hx _ hT (X'.ends _).1.alike, hcell9, hv, hcl, (X'.ends _).1, (X'.ends _).2.mono hc hs, hf⟩⟩
  rw [X.pushThrowing_eq]
  exact st
/-- a thing of a world lies in the heap -/
theorem vx_lt {D : va_G} {cl : List vw_C} {ws : va_W} {H1 : Heap} (h : va_P D cl ws H1) {k : Nat} {q : Nat × va_E} (hk : ws[k]? = some q) : q.1 < H1.size := (h k q hk).lt
end VXS
/-! ===== END ===== -/
/-! ===== BEGIN methods with a table of their own: called by a name, returning or throwing ===== -/
section VXH
/-! vx_backW, vx_callVX, vx_callSX, vx_callVW, vx_runVW, vx_runVX, vx_runSX, vx_ofWH follow the same proofs as their sisters above (Free/Laws.lean, Shelf42/LK1.lean); vx_outP calls Shelf42/NT130.lean (outThrough). -/
section
variable {l : Launch} {R : Room} {p : Program} {e : Env} {below : List Frame} {s : State} {sargs : Array Value} {y : MethodName} {len W9 : Nat}
theorem vx_backW {ws : List Cond} {rm : Room} {Pc : Array Value → State → Prop} {Qc : Array Value → State → Outcome → State → Prop} {XC : String → State → State → Prop} {mc ms : Nat} {free : Addr → Prop} {bytes : ByteArray} {maxL : Nat} {ret : Option FieldType} {hh : List (Nat × Nat × Nat × Nat)}
    (hM : vx_Met l y ws rm Pc Qc XC mc ms free) (hblind : FrameBlind Pc) (hrc : rm.cells = mc) (hrs : rm.slots = ms)
    (hframes : rm.frames + 1 ≤ R.frames) (hlocals : W9 + (maxL + 11) + rm.locals ≤ R.locals)
    (hws : ∀ w ∈ ws, ∀ a' U, s.WarmedH U.vm → w.before a' U = true) (hcode : Cond.codeWith y bytes maxL ret hh ∈ ws) (hinit : ∀ a' U, s.WarmedH U.vm → (Cond.initialized y.cls).before a' U = true) :
    vx_Back l R p e below s sargs y len W9 (PreOf R mc ms Pc) (PostOf Qc mc ms free) (vx_Post XC mc ms free) := by
  intro m meth c A g ig mk a X hg hsize hdg hW hn hp
  have h1 : (headSpec ws rm).pre.before a A.U = true := atoms_intro fun w hw => hws w hw _ _ X.warmed
  have h2 : (Cond.codeWith y bytes maxL ret hh).before a A.U = true := hws _ hcode _ _ X.warmed
  have h3 : (Cond.initialized y.cls).before a A.U = true := hinit _ _ X.warmed
  have h4 : A.cells + (headSpec ws rm).room.cells ≤ R.cells := by rw [show (headSpec ws rm).room.cells = mc from hrc]; exact hp.1
  have h5 : A.slots + (headSpec ws rm).room.slots ≤ R.slots := by rw [show (headSpec ws rm).room.slots = ms from hrs]; exact hp.2.1
  have hPc : Pc a (A.U.calling g mk a) := hblind _ _ _ _ hp.2.2
  obtain ⟨U, Ls, c0, s0⟩ := A
  dsimp only [Pt.U, Pt.locs, Pt.cells, Pt.slots] at h1 h2 h3 h4 h5 X hn hPc ⊢
  obtain ⟨m9, methY, cY, hn9, hmY, hcY, -, hlY, -⟩ := Cond.codeWith_spec h2
  cases Option.some.inj (hn9.symm.trans hn)
  obtain ⟨kY, hkY, -⟩ := className_of_methodNamed hn
  have hinitY : kY.init = .initialized := Cond.initialized_spec (findClass_of_methodNamed hn) hkY h3
  have h : At U g.method c below := by rw [hg]; exact X.here
  have hlocals9 : W9 + (maxL + 11) + (headSpec ws rm).room.locals ≤ R.locals := hlocals
  have happ : (headSpec ws rm).appliesLoose y e.platform (U.calling g mk a) = true :=
    Spec.appliesLoose_calling (g := g) h hdg hn hkY hinitY
      (X.room_calling (g := g) (R' := (headSpec ws rm).room) hsize hmY hcY hframes (by rw [hlY]; omega) h4 h5) h1
  obtain ⟨mid, hmid⟩ := h.above
  have hfr : (U.setTop g).frames = (.java g :: mid) ++ below := by rw [State.frames_setTop' g h.top, hmid]; rfl
  obtain ⟨o, s₂, hsteps, -, hend, hq⟩ := Steps.callFree hM p X.admits X.cas X.clock (acts := []) hfr happ hPc trivial
  have hq' : vx_Q Qc XC mc ms free a (U.calling g mk a) o s₂ := hq
  rw [State.frames_setTop' g h.top] at hend
  obtain ⟨g₀, hg0⟩ := Option.isSome_iff_exists.mp h.top
  obtain ⟨r, hr⟩ := State.topJava?_eq_some.mp hg0
  have hr' : (({ U with heap := s₂.heap, slotsUsed := s₂.slotsUsed } : State).setVm s₂.vm).frames = .java g₀ :: r := hr
  rcases hq' with ⟨hqc, L, hfe, hL⟩ | ⟨q, rfl, E, ce, L, hx, hce, hcv, hcl, hW₂, hsm, hL⟩
  · obtain ⟨⟨v, rfl⟩, hW₂, e2, q2, q3, q4, q5, q6⟩ := id hfe
    have e3 : s₂ = ({ (U.calling g mk a).setFrames s₂.frames with heap := s₂.heap, slotsUsed := s₂.slotsUsed } : State).setVm s₂.vm := by
      have : s₂ = ({ s₂ with vm := (U.calling g mk a).vm } : State).setVm s₂.vm := rfl
      rw [e2] at this
      exact this
    obtain ⟨c₂, i₂, len₂, hc₂, hd₂, hf₂⟩ := hend
    have hW' : U.WarmedH s₂.vm := hW₂
    have hcc : c₂ = c := by
      have h1 : s₂.code? g.method = U.code? g.method := by
        rw [State.code?_eq, State.code?_eq, hW'.alike.method?]
      exact Option.some.inj (hc₂.symm.trans (h1.trans h.code))
    subst hcc
    have hlen : len₂ = len := by rw [hdg] at hd₂; cases hd₂; rfl
    subst hlen
    have hs₂ : s₂ = (({ U with heap := s₂.heap, slotsUsed := s₂.slotsUsed } : State).setVm s₂.vm).setTop { g with pc := g.pc + len₂, stack := v.toList ++ g.stack } := by
      refine e3.trans ?_
      rw [hf₂, State.calling_eq h.top, State.setFrames_setFrames, State.setTop_of_frames _ hr', hr]
      rfl
    have hsame : U.sameButNew ({ U with heap := s₂.heap, slotsUsed := s₂.slotsUsed } : State) L mc ms := by
      refine ⟨?_, q2, q3, q4, q5, q6⟩
      obtain ⟨t, ht, -⟩ := State.frames_cons hr
      show ({ U with heap := s₂.heap, slotsUsed := s₂.slotsUsed } : State) = { U.setFrames U.frames with heap := s₂.heap, slotsUsed := s₂.slotsUsed }
      rw [State.setFrames_self ht]
    subst hg
    refine Or.inl ⟨v, ⟨(({ U with heap := s₂.heap, slotsUsed := s₂.slotsUsed } : State).setVm s₂.vm), Ls ++ L, c0 + mc, s0 + ms⟩,
      ⟨X.admits, X.cas, X.clock, X.frames, X.room, X.hears, X.method, X.code, (X.here.setHeapUsed s₂.heap s₂.slotsUsed).setVm hW'.alike, X.tail, State.WarmedH.trans X.warmed hW', X.limits, X.bytes, X.same.trans (hsame.setVm s.vm)⟩,
      ⟨g, mk, s₂, L, rfl, rfl, hqc, rfl, hL, rfl, rfl⟩, ?_⟩
    show Steps p.tables e below _ ((({ U with heap := s₂.heap, slotsUsed := s₂.slotsUsed } : State).setVm s₂.vm).setTop { g with pc := g.pc + len₂, stack := v.toList ++ g.stack })
    rw [← hs₂]
    exact hsteps
  · obtain ⟨e2, q2, q3, q4, q5, q6⟩ := id hsm
    have e3 : s₂ = ({ (U.calling g mk a).setFrames s₂.frames with heap := s₂.heap, slotsUsed := s₂.slotsUsed } : State).setVm s₂.vm := by
      have : s₂ = ({ s₂ with vm := (U.calling g mk a).vm } : State).setVm s₂.vm := rfl
      rw [e2] at this
      exact this
    have hf₂ : s₂.frames = .throwing q :: .java g :: U.frames.tail := hend
    have hW' : U.WarmedH s₂.vm := hW₂
    have hs₂ : s₂ = ((({ U with heap := s₂.heap, slotsUsed := s₂.slotsUsed } : State).setVm s₂.vm).setTop g).pushFrame (.throwing q) := by
      refine e3.trans ?_
      rw [hf₂, State.calling_eq h.top, State.setFrames_setFrames, State.pushFrame, State.frames_setTop _ hr', State.setTop_of_frames _ hr', State.setFrames_setFrames, hr]
      rfl
    have hsame : U.sameButNew ({ U with heap := s₂.heap, slotsUsed := s₂.slotsUsed } : State) L mc ms := by
      refine ⟨?_, q2, q3, q4, q5, q6⟩
      obtain ⟨t, ht, -⟩ := State.frames_cons hr
      show ({ U with heap := s₂.heap, slotsUsed := s₂.slotsUsed } : State) = { U.setFrames U.frames with heap := s₂.heap, slotsUsed := s₂.slotsUsed }
      rw [State.setFrames_self ht]
    subst hg
    refine Or.inr ⟨q, ⟨(({ U with heap := s₂.heap, slotsUsed := s₂.slotsUsed } : State).setVm s₂.vm), Ls ++ L, c0 + mc, s0 + ms⟩,
      ⟨X.admits, X.cas, X.clock, X.frames, X.room, X.hears, X.method, X.code, (X.here.setHeapUsed s₂.heap s₂.slotsUsed).setVm hW'.alike, X.tail, State.WarmedH.trans X.warmed hW', X.limits, X.bytes, X.same.trans (hsame.setVm s.vm)⟩,
      ⟨g, mk, s₂, L, E, ce, rfl, rfl, hx, hce, hcv, hcl, rfl, hL, rfl, rfl⟩, ?_⟩
    show Steps p.tables e below _ (((({ U with heap := s₂.heap, slotsUsed := s₂.slotsUsed } : State).setVm s₂.vm).setTop g).pushFrame (.throwing q))
    rw [← hs₂]
    exact hsteps
end
variable {p : Program} {l : Launch} {e : Env} {R : Room} {s : State} {m : MethodId} {args : Array Value} {below : List Frame} {meth : Method} {c : Code} {T : State} {H : Heap} {locs : List Loc} {cells slots : Nat}
theorem vx_callVX (X : Stand p l e R s m args below meth c T locs cells slots) (hexec : p.tables.exec = Jvm.exec) {own C : String} {index : Nat} {y : MethodName} {bytes : ByteArray} {maxL : Nat} {ret : Option FieldType} {hh : List (Nat × Nat × Nat × Nat)}
    (hown : s.vm.findClass own = some m.cls) (hlink : (Cond.methodLink own index y).before args s = true) (hinst : (Cond.instanceMethod y).before args s = true) (hsel : (Cond.selects C y y).before args s = true)
    (hcode : (Cond.codeWith y bytes maxL ret hh).before args s = true) (hy : y.cls ≠ "java/lang/invoke/MethodHandle" ∧ y.cls ≠ "java/lang/invoke/VarHandle")
    {W9 : Nat} {Pre : Pt → Array Value → Prop} {Post : Pt → Array Value → Option Value → Pt → Prop} {PostX : Pt → Array Value → Addr → Pt → Prop} (hK : vx_Back l R p e below s args y 3 W9 Pre Post PostX)
    {b : Addr} {cellB : Cell} (hcell : T.heap[b]? = some cellB) (hobj : cellB.vm.isStatics = false) (hcls : s.vm.findClass C = some cellB.cls)
    {g : JFrame} (hg : g.method = m) (hsize : g.locals.size = c.maxLocals) {argsL rest : List Value} (hlen : ∀ sig, parseMethodDescriptor y.desc = some sig → argsL.length = sig.parameters.length)
    (hstack : g.stack = argsL.reverse ++ .ref b :: rest) (hW : 2 * g.monitorRoom + (rest.map fun v => v.category).sum ≤ W9) (hdg : decode c.code g.pc = .ok (.invokevirtual index, 3))
    (hpre : ∀ vm₁, s.WarmedH vm₁ → Pre ⟨T.setVm vm₁, locs, cells, slots⟩ (Value.ref b :: argsL).toArray) :
    (∃ (v : Option Value) (vm₁ : Vm) (B : Pt), s.WarmedH vm₁ ∧ Stand p l e R s m args below meth c B.U B.locs B.cells B.slots ∧ Post ⟨T.setVm vm₁, locs, cells, slots⟩ (Value.ref b :: argsL).toArray v B ∧
      ∀ target, Steps p.tables e below (B.U.setTop { g with pc := g.pc + 3, stack := v.toList ++ rest }) target → Steps p.tables e below (T.setTop g) target) ∨
    (∃ (q : Addr) (vm₁ : Vm) (B : Pt), s.WarmedH vm₁ ∧ Stand p l e R s m args below meth c B.U B.locs B.cells B.slots ∧ PostX ⟨T.setVm vm₁, locs, cells, slots⟩ (Value.ref b :: argsL).toArray q B ∧
      Steps p.tables e below (T.setTop g) ((B.U.setTop { g with stack := rest }).pushFrame (.throwing q))) := by
  obtain ⟨mk, methM, hnamed, hmethM, hstM, habM⟩ := Cond.instanceMethod_spec hinst
  obtain ⟨m8, methM', cM, hn8, hmethM', -, -, -, -, -, -, hsigM⟩ := Cond.codeWith_spec hcode
  cases Option.some.inj (hn8.symm.trans hnamed)
  cases hmethM.symm.trans hmethM'
  obtain ⟨c2, r2, m2, q1, q2, q3, q4, kP, hkP, hkPi⟩ := Cond.selects_spec hsel
  cases hcls.symm.trans q1
  cases (State.methodFound?_of_named hnamed hy).symm.trans q2
  cases hnamed.symm.trans q3
  have hselP : selectMethod e.platform s.vm cellB.cls mk = .method mk := by rw [Launch.admits_selectMethod X.admits]; exact q4
  obtain ⟨vm₁, X₁, hstep₁⟩ := X.invokevirtual hexec hown hlink hnamed hmethM hstM hkP hkPi hy (a := b) (cell := cellB) hcell
    (fun z h => by rw [h] at hobj; cases hobj) hselP hmethM habM hkP hkPi (g := g) hg (argsL := argsL) (rest := rest) (hlen _ hsigM) hstack hdg
  rcases hK m meth c ⟨T.setVm vm₁, locs, cells, slots⟩ { g with stack := rest } (.invokevirtual index) mk (Value.ref b :: argsL).toArray X₁ hg hsize hdg hW (X₁.named hnamed) (hpre vm₁ X₁.warmed) with ⟨v, B, X', hpost, hsteps⟩ | ⟨q, B, X', hpost, hsteps⟩
  · exact Or.inl ⟨v, vm₁, B, X₁.warmed, X', hpost, fun target h => hstep₁ _ fun acts => by rw [doInvoke_state]; exact hsteps.trans h⟩
  · exact Or.inr ⟨q, vm₁, B, X₁.warmed, X', hpost, hstep₁ _ fun acts => by rw [doInvoke_state]; exact hsteps⟩
theorem vx_callSX (X : Stand p l e R s m args below meth c T locs cells slots) (hexec : p.tables.exec = Jvm.exec) {own : String} {index : Nat} {y : MethodName} {bytes : ByteArray} {maxL : Nat} {ret : Option FieldType} {hh : List (Nat × Nat × Nat × Nat)}
    (hown : s.vm.findClass own = some m.cls) (hlink : (Cond.methodLink own index y).before args s = true) (hstat : (Cond.static y).before args s = true) (hinit : (Cond.initialized y.cls).before args s = true)
    (hcode : (Cond.codeWith y bytes maxL ret hh).before args s = true) (hy : y.cls ≠ "java/lang/invoke/MethodHandle" ∧ y.cls ≠ "java/lang/invoke/VarHandle")
    {W9 : Nat} {Pre : Pt → Array Value → Prop} {Post : Pt → Array Value → Option Value → Pt → Prop} {PostX : Pt → Array Value → Addr → Pt → Prop} (hK : vx_Back l R p e below s args y 3 W9 Pre Post PostX)
    {g : JFrame} (hg : g.method = m) (hsize : g.locals.size = c.maxLocals) {argsL rest : List Value} (hlen : ∀ sig, parseMethodDescriptor y.desc = some sig → argsL.length = sig.parameters.length)
    (hstack : g.stack = argsL.reverse ++ rest) (hW : 2 * g.monitorRoom + (rest.map fun v => v.category).sum ≤ W9) (hdg : decode c.code g.pc = .ok (.invokestatic index, 3))
    (hpre : ∀ vm₁, s.WarmedH vm₁ → Pre ⟨T.setVm vm₁, locs, cells, slots⟩ argsL.toArray) :
    (∃ (v : Option Value) (vm₁ : Vm) (B : Pt), s.WarmedH vm₁ ∧ Stand p l e R s m args below meth c B.U B.locs B.cells B.slots ∧ Post ⟨T.setVm vm₁, locs, cells, slots⟩ argsL.toArray v B ∧
      ∀ target, Steps p.tables e below (B.U.setTop { g with pc := g.pc + 3, stack := v.toList ++ rest }) target → Steps p.tables e below (T.setTop g) target) ∨
    (∃ (q : Addr) (vm₁ : Vm) (B : Pt), s.WarmedH vm₁ ∧ Stand p l e R s m args below meth c B.U B.locs B.cells B.slots ∧ PostX ⟨T.setVm vm₁, locs, cells, slots⟩ argsL.toArray q B ∧
      Steps p.tables e below (T.setTop g) ((B.U.setTop { g with stack := rest }).pushFrame (.throwing q))) := by
  obtain ⟨mk, methM, cM, hnamed, hmethM, -, -, -, -, -, -, hsigM⟩ := Cond.codeWith_spec hcode
  have hstatic : methM.isStatic = true := Cond.static_spec hnamed hmethM hstat
  obtain ⟨kP, hkP, -⟩ := className_of_methodNamed hnamed
  have hinitP : kP.init = .initialized := Cond.initialized_spec (findClass_of_methodNamed hnamed) hkP hinit
  obtain ⟨vm₁, X₁, hstep₁⟩ := X.invokestatic hexec hown hlink hnamed hmethM hstatic hkP hinitP hy (g := g) hg (argsL := argsL) (rest := rest) (hlen _ hsigM) hstack hdg
  rcases hK m meth c ⟨T.setVm vm₁, locs, cells, slots⟩ { g with stack := rest } (.invokestatic index) mk argsL.toArray X₁ hg hsize hdg hW (X₁.named hnamed) (hpre vm₁ X₁.warmed) with ⟨v, B, X', hpost, hsteps⟩ | ⟨q, B, X', hpost, hsteps⟩
  · exact Or.inl ⟨v, vm₁, B, X₁.warmed, X', hpost, fun target h => hstep₁ _ fun acts => by rw [doInvoke_state]; exact hsteps.trans h⟩
  · exact Or.inr ⟨q, vm₁, B, X₁.warmed, X', hpost, hstep₁ _ fun acts => by rw [doInvoke_state]; exact hsteps⟩
theorem vx_callVW (X : Stand p l e R s m args below meth c T locs cells slots) (hexec : p.tables.exec = Jvm.exec) {own C : String} {index : Nat} {y : MethodName} {bytes : ByteArray} {maxL : Nat} {ret : Option FieldType} {hh : List (Nat × Nat × Nat × Nat)}
    (hown : s.vm.findClass own = some m.cls) (hlink : (Cond.methodLink own index y).before args s = true) (hinst : (Cond.instanceMethod y).before args s = true) (hsel : (Cond.selects C y y).before args s = true)
    (hcode : (Cond.codeWith y bytes maxL ret hh).before args s = true) (hy : y.cls ≠ "java/lang/invoke/MethodHandle" ∧ y.cls ≠ "java/lang/invoke/VarHandle")
    {W9 : Nat} {Pre : Pt → Array Value → Prop} {Post : Pt → Array Value → Option Value → Pt → Prop} (hK : Back l R p e below s args y 3 W9 Pre Post)
    {b : Addr} {cellB : Cell} (hcell : T.heap[b]? = some cellB) (hobj : cellB.vm.isStatics = false) (hcls : s.vm.findClass C = some cellB.cls)
    {g : JFrame} (hg : g.method = m) (hsize : g.locals.size = c.maxLocals) {argsL rest : List Value} (hlen : ∀ sig, parseMethodDescriptor y.desc = some sig → argsL.length = sig.parameters.length)
    (hstack : g.stack = argsL.reverse ++ .ref b :: rest) (hW : 2 * g.monitorRoom + (rest.map fun v => v.category).sum ≤ W9) (hdg : decode c.code g.pc = .ok (.invokevirtual index, 3))
    (hpre : ∀ vm₁, s.WarmedH vm₁ → Pre ⟨T.setVm vm₁, locs, cells, slots⟩ (Value.ref b :: argsL).toArray) :
    ∃ (v : Option Value) (vm₁ : Vm) (B : Pt), s.WarmedH vm₁ ∧ Stand p l e R s m args below meth c B.U B.locs B.cells B.slots ∧ Post ⟨T.setVm vm₁, locs, cells, slots⟩ (Value.ref b :: argsL).toArray v B ∧
      ∀ target, Steps p.tables e below (B.U.setTop { g with pc := g.pc + 3, stack := v.toList ++ rest }) target → Steps p.tables e below (T.setTop g) target := by
  obtain ⟨mk, methM, hnamed, hmethM, hstM, habM⟩ := Cond.instanceMethod_spec hinst
  obtain ⟨m8, methM', cM, hn8, hmethM', -, -, -, -, -, -, hsigM⟩ := Cond.codeWith_spec hcode
  cases Option.some.inj (hn8.symm.trans hnamed)
  cases hmethM.symm.trans hmethM'
  obtain ⟨c2, r2, m2, q1, q2, q3, q4, kP, hkP, hkPi⟩ := Cond.selects_spec hsel
  cases hcls.symm.trans q1
  cases (State.methodFound?_of_named hnamed hy).symm.trans q2
  cases hnamed.symm.trans q3
  have hselP : selectMethod e.platform s.vm cellB.cls mk = .method mk := by rw [Launch.admits_selectMethod X.admits]; exact q4
  obtain ⟨vm₁, X₁, hstep₁⟩ := X.invokevirtual hexec hown hlink hnamed hmethM hstM hkP hkPi hy (a := b) (cell := cellB) hcell
    (fun z h => by rw [h] at hobj; cases hobj) hselP hmethM habM hkP hkPi (g := g) hg (argsL := argsL) (rest := rest) (hlen _ hsigM) hstack hdg
  obtain ⟨v, B, X', hpost, hsteps⟩ := hK m meth c ⟨T.setVm vm₁, locs, cells, slots⟩ { g with stack := rest } (.invokevirtual index) mk (Value.ref b :: argsL).toArray X₁ hg hsize hdg hW (X₁.named hnamed) (hpre vm₁ X₁.warmed)
  exact ⟨v, vm₁, B, X₁.warmed, X', hpost, fun target h => hstep₁ _ fun acts => by rw [doInvoke_state]; exact hsteps.trans h⟩
abbrev vx_CVW (R : Room) (s : State) (args : Array Value) (own C : String) (index : Nat) (y : MethodName) (bytes : ByteArray) (maxL : Nat) (ret : Option FieldType) (hh : List (Nat × Nat × Nat × Nat)) (ws : List Cond) (rm : Room) (mc ms n : Nat) : Prop :=
  (rm.cells = mc ∧ rm.slots = ms ∧ rm.frames + 1 ≤ R.frames ∧ 8 + (maxL + 11) + rm.locals ≤ R.locals ∧ (∀ w ∈ ws, ∀ (a' : Array Value) (U : State), s.WarmedH U.vm → w.before a' U = true) ∧ Cond.codeWith y bytes maxL ret hh ∈ ws) ∧
  (Cond.codeWith y bytes maxL ret hh).before args s = true ∧ (Cond.initialized y.cls).before args s = true ∧ (y.cls ≠ "java/lang/invoke/MethodHandle" ∧ y.cls ≠ "java/lang/invoke/VarHandle") ∧
  (∀ sig, parseMethodDescriptor y.desc = some sig → n = sig.parameters.length) ∧ (Cond.methodLink own index y).before args s = true ∧ (Cond.instanceMethod y).before args s = true ∧ (Cond.selects C y y).before args s = true
theorem vx_cwVW {own C : String} {index maxL mc ms : Nat} {y : MethodName} {bytes : ByteArray} {ret : Option FieldType} {hh : List (Nat × Nat × Nat × Nat)} {Ts ws ws' : List Cond} {rm : Room} (n : Nat) (ht : ∀ w ∈ Ts, w.before args s = true) (hT : GoodIn Ts (wsV own index C y ws)) (hw : ws = Cond.codeWith y bytes maxL ret hh :: ws') (hrc : rm.cells = mc) (hrs : rm.slots = ms)
    (hd : y.cls = C ∧ y.cls ≠ "java/lang/invoke/MethodHandle" ∧ y.cls ≠ "java/lang/invoke/VarHandle" ∧ (parseMethodDescriptor y.desc).map (fun d => d.parameters.length) = some n) (hR : rm.frames + 1 ≤ R.frames ∧ 8 + (maxL + 11) + rm.locals ≤ R.locals) :
    vx_CVW R s args own C index y bytes maxL ret hh ws rm mc ms n := by
  obtain ⟨hC, hd⟩ := hd
  subst hC
  have ok : ∀ w ∈ wsV own index y.cls y ws, w.before args s = true := fun w h => ht w (hT w h).1
  have hG : GoodIn Ts ws := fun w h => hT w (by unfold wsV; exact List.mem_append_right _ h)
  have hc : Cond.codeWith y bytes maxL ret hh ∈ ws := by rw [hw]; exact List.mem_cons_self
  refine ⟨⟨hrc, hrs, hR.1, hR.2, pay_in ht hG, hc⟩, ht _ (hG _ hc).1, ok _ (by simp [wsV]), ⟨hd.1, hd.2.1⟩, fun sig h => ?_, ok _ (by simp [wsV]), ok _ (by simp [wsV]), ok _ (by simp [wsV])⟩
  have h2 := hd.2.2
  rw [h] at h2
  exact (Option.some.inj h2).symm
theorem vx_runVW {y : MethodName} {bytes cc : ByteArray} {maxL nL mc ms n index : Nat} {ret : Option FieldType} {hh : List (Nat × Nat × Nat × Nat)} {ws : List Cond} {rm : Room} {Pc : Array Value → State → Prop} {Qc : Array Value → State → Outcome → State → Prop} {free : Addr → Prop} {Ts : List Cond} {own C : String} {b : Addr} {As rest : List Value} {g : JFrame}
    (S : CallFix p m c cc nL s args Ts own) (hM : Met l y ws rm Pc Qc mc ms free) (cw : vx_CVW R s args own C index y bytes maxL ret hh ws rm mc ms n) (hp : PreV s H C b Pc As)
    (hg : g.method = m) (hn : As.length = n) (hsize : g.locals.size = nL) (hstack : g.stack = As.reverse ++ .ref b :: rest) (hW : 2 * g.monitorRoom + (rest.map fun v => v.category).sum ≤ 8) (hdg : decode cc g.pc = .ok (.invokevirtual index, 3)) (hf : cells + mc ≤ R.cells ∧ slots + ms ≤ R.slots) :
    va_Run p l e R s m args below meth c H locs cells slots mc ms g rest (Qc (Value.ref b :: As).toArray) free := by
  obtain ⟨⟨hrc, hrs, hfr, hlo, hws, hcw⟩, hcode, hini, hy, hlen, hl, hin, hse⟩ := cw
  have hK : Back l R p e below s args y 3 8 (PreOf R mc ms Pc) (PostOf Qc mc ms free) := va_backW (hh := hh) (bytes := bytes) (maxL := maxL) (ret := ret) hM hp.1 hrc hrs hfr hlo hws hcw (fun a' U hW => word_at hW (Or.inl (by first | rfl | simp [Cond.onTables, Cond.keeps, Cond.steady])) hini)
  obtain ⟨hx, hb, hml, ho, -⟩ := S
  obtain ⟨-, ⟨cellB, hcB, hoB, hclB⟩, hPc⟩ := hp
  intro T hT X
  obtain ⟨v, vm₁, ⟨U', l2, c2, s2⟩, hW₁, X', ⟨g', mk, t, L, e1, e2, hq, h1, hL, h2, h3⟩, st⟩ := vx_callVW X hx (C := C) (hh := hh) (bytes := bytes) (maxL := maxL) (ret := ret) ho hl hin hse hcode hy hK (by rw [hT]; exact hcB) hoB hclB hg (hsize.trans hml.symm) (argsL := As) (rest := rest) (fun sig h => hn.trans (hlen sig h)) hstack hW (by rw [hb]; exact hdg)
    (fun vm₁ hW₁ => ⟨hf.1, hf.2, hPc (T.setVm vm₁) hT hW₁⟩)
  dsimp only [Pt.U, Pt.locs, Pt.cells, Pt.slots] at X' e1 e2 h1 h2 h3 st
  subst h1; subst h2; subst h3
  exact ⟨v, (T.setVm vm₁).calling g' mk (Value.ref b :: As).toArray, t, U', L, hT, X', hL, e1, e2, hq, st⟩
section
variable {y : MethodName} {bytes cc : ByteArray} {maxL nL mc ms n index : Nat} {ret : Option FieldType} {ws : List Cond} {rm : Room} {Pc : Array Value → State → Prop} {Qc : Array Value → State → Outcome → State → Prop} {XC : String → State → State → Prop} {free : Addr → Prop} {Ts : List Cond} {own C : String} {b : Addr} {As rest : List Value} {g : JFrame}
theorem vx_runVX {hh : List (Nat × Nat × Nat × Nat)} (S : CallFix p m c cc nL s args Ts own) (hM : vx_Met l y ws rm Pc Qc XC mc ms free) (cw : vx_CVW R s args own C index y bytes maxL ret hh ws rm mc ms n) (hp : PreV s H C b Pc As)
    (hg : g.method = m) (hn : As.length = n) (hsize : g.locals.size = nL) (hstack : g.stack = As.reverse ++ .ref b :: rest) (hW : 2 * g.monitorRoom + (rest.map fun v => v.category).sum ≤ 8) (hdg : decode cc g.pc = .ok (.invokevirtual index, 3)) (hf : cells + mc ≤ R.cells ∧ slots + ms ≤ R.slots) :
    vx_Run p l e R s m args below meth c H locs cells slots mc ms g rest (Qc (Value.ref b :: As).toArray) XC free := by
  obtain ⟨⟨hrc, hrs, hfr, hlo, hws, hcw⟩, hcode, hini, hy, hlen, hl, hin, hse⟩ := cw
  have hK : vx_Back l R p e below s args y 3 8 (PreOf R mc ms Pc) (PostOf Qc mc ms free) (vx_Post XC mc ms free) := vx_backW (hh := hh) (bytes := bytes) (maxL := maxL) (ret := ret) hM hp.1 hrc hrs hfr hlo hws hcw (fun a' U hW => word_at hW (Or.inl (by first | rfl | simp [Cond.onTables, Cond.keeps, Cond.steady])) hini)
  obtain ⟨hx, hb, hml, ho, -⟩ := S
  obtain ⟨-, ⟨cellB, hcB, hoB, hclB⟩, hPc⟩ := hp
  intro T hT X
  rcases vx_callVX X hx (C := C) (hh := hh) (bytes := bytes) (maxL := maxL) (ret := ret) ho hl hin hse hcode hy hK (by rw [hT]; exact hcB) hoB hclB hg (hsize.trans hml.symm) (argsL := As) (rest := rest) (fun sig h => hn.trans (hlen sig h)) hstack hW (by rw [hb]; exact hdg)
    (fun vm₁ hW₁ => ⟨hf.1, hf.2, hPc (T.setVm vm₁) hT hW₁⟩) with ⟨v, vm₁, ⟨U', l2, c2, s2⟩, hW₁, X', ⟨g', mk, t, L, e1, e2, hq, h1, hL, h2, h3⟩, st⟩ | ⟨q, vm₁, ⟨U', l2, c2, s2⟩, hW₁, X', ⟨g', mk, t, L, E, ce, e1, e2, hq, hce, hcv, hcl, h1, hL, h2, h3⟩, st⟩
  · dsimp only [Pt.U, Pt.locs, Pt.cells, Pt.slots] at X' e1 e2 h1 h2 h3 st
    subst h1; subst h2; subst h3
    exact Or.inl ⟨v, (T.setVm vm₁).calling g' mk (Value.ref b :: As).toArray, t, U', L, hT, X', hL, e1, e2, hq, st⟩
  · dsimp only [Pt.U, Pt.locs, Pt.cells, Pt.slots] at X' e1 e2 h1 h2 h3 st hcl
    subst h1; subst h2; subst h3
    exact Or.inr ⟨q, (T.setVm vm₁).calling g' mk (Value.ref b :: As).toArray, t, U', L, E, ce, hT, X', hL, e1, e2, hq, hce, hcv, vx_cls hW₁ hcl, st⟩
theorem vx_runSX {hh : List (Nat × Nat × Nat × Nat)} (S : CallFix p m c cc nL s args Ts own) (hM : vx_Met l y ws rm Pc Qc XC mc ms free) (cw : vx_CSW R s args own index y bytes maxL ret hh ws rm mc ms n) (hp : PreS s H Pc As)
    (hg : g.method = m) (hn : As.length = n) (hsize : g.locals.size = nL) (hstack : g.stack = As.reverse ++ rest) (hW : 2 * g.monitorRoom + (rest.map fun v => v.category).sum ≤ 8) (hdg : decode cc g.pc = .ok (.invokestatic index, 3)) (hf : cells + mc ≤ R.cells ∧ slots + ms ≤ R.slots) :
    vx_Run p l e R s m args below meth c H locs cells slots mc ms g rest (Qc As.toArray) XC free := by
  obtain ⟨⟨hrc, hrs, hfr, hlo, hws, hcw⟩, hcode, hini, hy, hlen, hl, hstt⟩ := cw
  have hK : vx_Back l R p e below s args y 3 8 (PreOf R mc ms Pc) (PostOf Qc mc ms free) (vx_Post XC mc ms free) := vx_backW (hh := hh) (bytes := bytes) (maxL := maxL) (ret := ret) hM hp.1 hrc hrs hfr hlo hws hcw (fun a' U hW => word_at hW (Or.inl (by first | rfl | simp [Cond.onTables, Cond.keeps, Cond.steady])) hini)
  obtain ⟨hx, hb, hml, ho, -⟩ := S
  intro T hT X
  rcases vx_callSX X hx (hh := hh) (bytes := bytes) (maxL := maxL) (ret := ret) ho hl hstt hini hcode hy hK hg (hsize.trans hml.symm) (argsL := As) (rest := rest) (fun sig h => hn.trans (hlen sig h)) hstack hW (by rw [hb]; exact hdg)
    (fun vm₁ hW₁ => ⟨hf.1, hf.2, hp.2 (T.setVm vm₁) hT hW₁⟩) with ⟨v, vm₁, ⟨U', l2, c2, s2⟩, hW₁, X', ⟨g', mk, t, L, e1, e2, hq, h1, hL, h2, h3⟩, st⟩ | ⟨q, vm₁, ⟨U', l2, c2, s2⟩, hW₁, X', ⟨g', mk, t, L, E, ce, e1, e2, hq, hce, hcv, hcl, h1, hL, h2, h3⟩, st⟩
  · dsimp only [Pt.U, Pt.locs, Pt.cells, Pt.slots] at X' e1 e2 h1 h2 h3 st
    subst h1; subst h2; subst h3
    exact Or.inl ⟨v, (T.setVm vm₁).calling g' mk As.toArray, t, U', L, hT, X', hL, e1, e2, hq, st⟩
  · dsimp only [Pt.U, Pt.locs, Pt.cells, Pt.slots] at X' e1 e2 h1 h2 h3 st hcl
    subst h1; subst h2; subst h3
    exact Or.inr ⟨q, (T.setVm vm₁).calling g' mk As.toArray, t, U', L, E, ce, hT, X', hL, e1, e2, hq, hce, hcv, vx_cls hW₁ hcl, st⟩
end
end VXH
theorem vx_ofWH {l : Launch} {y : MethodName} {ws ws' : List Cond} {rm : Room} {Pc : Array Value → State → Prop} {Qc : Array Value → State → Outcome → State → Prop} {XC : String → State → State → Prop} {mc ms : Nat} {free : Addr → Prop} {cc : ByteArray} {maxL : Nat} {ret : Option FieldType} {hh : List (Nat × Nat × Nat × Nat)}
    (hy : plainName y.cls = true) (hw : ws = Cond.codeWith y cc maxL ret hh :: ws')
    (body : ∀ p e s m args below meth c s₁, BodyLoose p l y (headSpec ws rm) cc maxL ret e s m args below meth c s₁ → c.maxLocals = maxL → Pc args s →
      W p l e (headSpec ws rm).room s m args below meth c s.heap [] 0 0 (vx_MQ below Qc XC args s mc ms free) (entryFrame m args maxL)) : vx_Met l y ws rm Pc Qc XC mc ms free := by
  refine MetFree.of_bodyS (code := cc) (maxLocals := maxL) (ret := ret) hy ?_ ?_
  · intro args s m h hn
    obtain ⟨m9, meth, c, hn9, h1, h2, h3, h4, -, h5, h6, -⟩ := Cond.codeWith_spec (atoms_spec (ws := ws) h _ (by rw [hw]; exact List.mem_cons_self))
    cases hn.symm.trans hn9
    exact ⟨meth, c, h1, h2, h3, h4, h5, h6⟩
  · intro p e s m args below meth c s₁ B hml hP _
    have hh0 : s₁.heap = s.heap := by rw [B.state]; rfl
    obtain ⟨t, a1, o, b1, b2, b3⟩ := body p e s m args below meth c s₁ B hml hP s₁ hh0 (Stand.of_body B)
    exact ⟨t, o, a1, b1, b2, b3⟩
/-! ===== END ===== -/
/-! ===== BEGIN a constructor that throws (launches without stack traces) ===== -/
section VXIA
variable {p : Program} {l : Launch} {e : Env} {R : Room} {s : State} {m : MethodId} {args : Array Value} {below : List Frame} {meth : Method} {c : Code} {T : State} {locs : List Loc} {cells slots : Nat}
theorem vx_callI (X : Stand p l e R s m args below meth c T locs cells slots) (hexec : p.tables.exec = Jvm.exec) {own : String} {index : Nat} {y : MethodName} {bytes : ByteArray} {maxL : Nat}
    (hown : s.vm.findClass own = some m.cls) (hy1 : y.name = "<init>") (hlink : (Cond.methodLink own index y).before args s = true) (hinst : (Cond.instanceMethod y).before args s = true)
    (hcode : (Cond.code y bytes maxL none).before args s = true) (hy : y.cls ≠ "java/lang/invoke/MethodHandle" ∧ y.cls ≠ "java/lang/invoke/VarHandle")
    {W9 : Nat} {Pre : Pt → Array Value → Prop} {Post : Pt → Array Value → Option Value → Pt → Prop} {PostX : Pt → Array Value → Addr → Pt → Prop} (hK : vx_Back l R p e below s args y 3 W9 Pre Post PostX)
    {g : JFrame} (hg : g.method = m) (hsize : g.locals.size = c.maxLocals) {a : Addr} {argsL rest : List Value} (hlen : ∀ sig, parseMethodDescriptor y.desc = some sig → argsL.length = sig.parameters.length)
    (hstack : g.stack = argsL.reverse ++ .ref a :: rest) (hW : 2 * g.monitorRoom + (rest.map fun v => v.category).sum ≤ W9) (hdg : decode c.code g.pc = .ok (.invokespecial index, 3))
    (hpre : ∀ vm₁, s.WarmedH vm₁ → Pre ⟨T.setVm vm₁, locs, cells, slots⟩ (Value.ref a :: argsL).toArray) :
    (∃ (v : Option Value) (vm₁ : Vm) (B : Pt), s.WarmedH vm₁ ∧ Stand p l e R s m args below meth c B.U B.locs B.cells B.slots ∧ Post ⟨T.setVm vm₁, locs, cells, slots⟩ (Value.ref a :: argsL).toArray v B ∧
      ∀ target, Steps p.tables e below (B.U.setTop { g with pc := g.pc + 3, stack := v.toList ++ rest }) target → Steps p.tables e below (T.setTop g) target) ∨
    (∃ (q : Addr) (vm₁ : Vm) (B : Pt), s.WarmedH vm₁ ∧ Stand p l e R s m args below meth c B.U B.locs B.cells B.slots ∧ PostX ⟨T.setVm vm₁, locs, cells, slots⟩ (Value.ref a :: argsL).toArray q B ∧
      Steps p.tables e below (T.setTop g) ((B.U.setTop { g with stack := rest }).pushFrame (.throwing q))) := by
  subst hg
  have hpl : e.platform.magicAccessors = ({} : Platform).magicAccessors := by rw [X.admits.platform]
  obtain ⟨mk, methM, cM, kP, vm₁, hnamed, hmethM, hcodeM, -, hlocalsM, -, hkP, -, hW₁, hstep₁⟩ := Steps.initColdArgs (e := e) X.here hexec X.warmed hpl hown hy1 hy hlink hinst hcode (f := g) rfl hlen hstack hdg
  have X₁ := X.noted hW₁
  rcases hK g.method meth c ⟨T.setVm vm₁, locs, cells, slots⟩ { g with stack := rest } (.invokespecial index) mk (Value.ref a :: argsL).toArray X₁ rfl hsize hdg hW (X₁.named hnamed) (hpre vm₁ X₁.warmed) with ⟨v, B, X', hpost, hsteps⟩ | ⟨q, B, X', hpost, hsteps⟩
  · exact Or.inl ⟨v, vm₁, B, X₁.warmed, X', hpost, fun target h => hstep₁ _ fun acts => by rw [doInvoke_state]; exact hsteps.trans h⟩
  · exact Or.inr ⟨q, vm₁, B, X₁.warmed, X', hpost, hstep₁ _ fun acts => by rw [doInvoke_state]; exact hsteps⟩
end VXIA
section VXIB
variable {p : Program} {l : Launch} {e : Env} {R : Room} {s : State} {m : MethodId} {args : Array Value} {below : List Frame} {meth : Method} {c : Code} {H : Heap} {locs : List Loc} {cells slots : Nat}
variable {y : MethodName} {bytes cc : ByteArray} {maxL nL mc ms n index : Nat} {ret : Option FieldType} {ws : List Cond} {rm : Room} {Pc : Array Value → State → Prop} {Qc : Array Value → State → Outcome → State → Prop} {XC : String → State → State → Prop} {free : Addr → Prop} {Ts : List Cond} {own C : String} {b : Addr} {As rest : List Value} {g : JFrame}
theorem vx_runI (S : CallFix p m c cc nL s args Ts own) (hM : vx_Met l y ws rm Pc Qc XC mc ms free) (cw : CallB R s args own index y bytes maxL none ws rm mc ms n ∧ y.name = "<init>" ∧ (Cond.instanceMethod y).before args s = true) (hp : PreS s H Pc (.ref b :: As))
    (hg : g.method = m) (hn : As.length = n) (hsize : g.locals.size = nL) (hstack : g.stack = As.reverse ++ .ref b :: rest) (hW : 2 * g.monitorRoom + (rest.map fun v => v.category).sum ≤ 8) (hdg : decode cc g.pc = .ok (.invokespecial index, 3)) (hf : cells + mc ≤ R.cells ∧ slots + ms ≤ R.slots) :
    vx_Run p l e R s m args below meth c H locs cells slots mc ms g rest (Qc (Value.ref b :: As).toArray) XC free := by
  have hK : vx_Back l R p e below s args y 3 8 (PreOf R mc ms Pc) (PostOf Qc mc ms free) (vx_Post XC mc ms free) := vx_callBack cw.1 hM hp.1
  obtain ⟨⟨-, -, -, -, -, -, hcode, -, hy, hlen, hl⟩, hy1, hin⟩ := cw
  obtain ⟨hx, hb, hml, ho, -⟩ := S
  have hPc := hp.2
  intro T hT X
  rcases vx_callI X hx (bytes := bytes) (maxL := maxL) ho hy1 hl hin hcode hy hK hg (hsize.trans hml.symm) (a := b) (argsL := As) (rest := rest) (fun sig h => hn.trans (hlen sig h)) hstack hW (by rw [hb]; exact hdg)
    (fun vm₁ hW₁ => ⟨hf.1, hf.2, hPc (T.setVm vm₁) hT hW₁⟩) with ⟨v, vm₁, ⟨U', l2, c2, s2⟩, hW₁, X', ⟨g', mk, t, L, e1, e2, hq, h1, hL, h2, h3⟩, st⟩ | ⟨q, vm₁, ⟨U', l2, c2, s2⟩, hW₁, X', ⟨g', mk, t, L, E, ce, e1, e2, hq, hce, hcv, hcl, h1, hL, h2, h3⟩, st⟩
  · dsimp only [Pt.U, Pt.locs, Pt.cells, Pt.slots] at X' e1 e2 h1 h2 h3 st
    subst h1; subst h2; subst h3
    exact Or.inl ⟨v, (T.setVm vm₁).calling g' mk (Value.ref b :: As).toArray, t, U', L, hT, X', hL, e1, e2, hq, st⟩
  · dsimp only [Pt.U, Pt.locs, Pt.cells, Pt.slots] at X' e1 e2 h1 h2 h3 st hcl
    subst h1; subst h2; subst h3
    exact Or.inr ⟨q, (T.setVm vm₁).calling g' mk (Value.ref b :: As).toArray, t, U', L, E, ce, hT, X', hL, e1, e2, hq, hce, hcv, vx_cls hW₁ hcl, st⟩
end VXIB
/-! ===== END ===== -/
/-! ===== BEGIN a private constructor of a nest mate that throws ===== -/
section VXIC
variable {p : Program} {l : Launch} {e : Env} {R : Room} {s : State} {m : MethodId} {args : Array Value} {below : List Frame} {meth : Method} {c : Code} {T : State} {locs : List Loc} {cells slots : Nat}
theorem vx_callIN (X : Stand p l e R s m args below meth c T locs cells slots) (hexec : p.tables.exec = Jvm.exec) {own : String} {index : Nat} {host : String} {y : MethodName} {bytes : ByteArray} {maxL : Nat}
    (hown : s.vm.findClass own = some m.cls) (hy1 : y.name = "<init>") (hlink : (Cond.methodLinkNest own index y host).before args s = true) (hinst : (Cond.instanceMethod y).before args s = true)
    (hcode : (Cond.code y bytes maxL none).before args s = true) (hy : y.cls ≠ "java/lang/invoke/MethodHandle" ∧ y.cls ≠ "java/lang/invoke/VarHandle")
    {W9 : Nat} {Pre : Pt → Array Value → Prop} {Post : Pt → Array Value → Option Value → Pt → Prop} {PostX : Pt → Array Value → Addr → Pt → Prop} (hK : vx_Back l R p e below s args y 3 W9 Pre Post PostX)
    {g : JFrame} (hg : g.method = m) (hsize : g.locals.size = c.maxLocals) {a : Addr} {argsL rest : List Value} (hlen : ∀ sig, parseMethodDescriptor y.desc = some sig → argsL.length = sig.parameters.length)
    (hstack : g.stack = argsL.reverse ++ .ref a :: rest) (hW : 2 * g.monitorRoom + (rest.map fun v => v.category).sum ≤ W9) (hdg : decode c.code g.pc = .ok (.invokespecial index, 3))
    (hpre : ∀ vm₁, s.WarmedH vm₁ → Pre ⟨T.setVm vm₁, locs, cells, slots⟩ (Value.ref a :: argsL).toArray) :
    (∃ (v : Option Value) (vm₁ : Vm) (B : Pt), s.WarmedH vm₁ ∧ Stand p l e R s m args below meth c B.U B.locs B.cells B.slots ∧ Post ⟨T.setVm vm₁, locs, cells, slots⟩ (Value.ref a :: argsL).toArray v B ∧
      ∀ target, Steps p.tables e below (B.U.setTop { g with pc := g.pc + 3, stack := v.toList ++ rest }) target → Steps p.tables e below (T.setTop g) target) ∨
    (∃ (q : Addr) (vm₁ : Vm) (B : Pt), s.WarmedH vm₁ ∧ Stand p l e R s m args below meth c B.U B.locs B.cells B.slots ∧ PostX ⟨T.setVm vm₁, locs, cells, slots⟩ (Value.ref a :: argsL).toArray q B ∧
      Steps p.tables e below (T.setTop g) ((B.U.setTop { g with stack := rest }).pushFrame (.throwing q))) := by
  subst hg
  have hpl : e.platform.magicAccessors = ({} : Platform).magicAccessors := by rw [X.admits.platform]
  obtain ⟨mk, methM, cM, kP, vm₁, hnamed, hmethM, hcodeM, -, hlocalsM, -, hkP, -, hW₁, hstep₁⟩ := Steps.initColdArgsNest (e := e) X.here hexec X.warmed hpl hown hy1 hy hlink hinst hcode (f := g) rfl hlen hstack hdg
  have X₁ := X.noted hW₁
  rcases hK g.method meth c ⟨T.setVm vm₁, locs, cells, slots⟩ { g with stack := rest } (.invokespecial index) mk (Value.ref a :: argsL).toArray X₁ rfl hsize hdg hW (X₁.named hnamed) (hpre vm₁ X₁.warmed) with ⟨v, B, X', hpost, hsteps⟩ | ⟨q, B, X', hpost, hsteps⟩
  · exact Or.inl ⟨v, vm₁, B, X₁.warmed, X', hpost, fun target h => hstep₁ _ fun acts => by rw [doInvoke_state]; exact hsteps.trans h⟩
  · exact Or.inr ⟨q, vm₁, B, X₁.warmed, X', hpost, hstep₁ _ fun acts => by rw [doInvoke_state]; exact hsteps⟩
end VXIC
section VXID
variable {p : Program} {l : Launch} {e : Env} {R : Room} {s : State} {m : MethodId} {args : Array Value} {below : List Frame} {meth : Method} {c : Code} {H : Heap} {locs : List Loc} {cells slots : Nat}
theorem vx_runIN {y : MethodName} {bytes cc : ByteArray} {maxL nL mc ms n index : Nat} {ws : List Cond} {rm : Room} {Pc : Array Value → State → Prop} {Qc : Array Value → State → Outcome → State → Prop} {XC : String → State → State → Prop} {free : Addr → Prop} {Ts : List Cond} {own host : String} {b : Addr} {As rest : List Value} {g : JFrame}
    (S : CallFix p m c cc nL s args Ts own) (hM : vx_Met l y ws rm Pc Qc XC mc ms free) (cw : va_CN R s args own index y host bytes maxL none ws rm mc ms n ∧ y.name = "<init>" ∧ (Cond.instanceMethod y).before args s = true) (hp : PreS s H Pc (.ref b :: As))
    (hg : g.method = m) (hn : As.length = n) (hsize : g.locals.size = nL) (hstack : g.stack = As.reverse ++ .ref b :: rest) (hW : 2 * g.monitorRoom + (rest.map fun v => v.category).sum ≤ 8) (hdg : decode cc g.pc = .ok (.invokespecial index, 3)) (hf : cells + mc ≤ R.cells ∧ slots + ms ≤ R.slots) :
    vx_Run p l e R s m args below meth c H locs cells slots mc ms g rest (Qc (Value.ref b :: As).toArray) XC free := by
  obtain ⟨⟨⟨hrc, hrs, hfr, hlo, hws, hcw⟩, hcode, hini, hy, hlen, hl⟩, hx1, hx2⟩ := cw
  have hK : vx_Back l R p e below s args y 3 8 (PreOf R mc ms Pc) (PostOf Qc mc ms free) (vx_Post XC mc ms free) := vx_back (bytes := bytes) (maxL := maxL) (ret := none) hM hp.1 hrc hrs hfr hlo hws hcw (fun a' U hW => word_at hW (Or.inl (by first | rfl | simp [Cond.onTables, Cond.keeps, Cond.steady])) hini)
  obtain ⟨hx, hb, hml, ho, -⟩ := S
  have hPc := hp.2
  intro T hT X
  rcases vx_callIN X hx (bytes := bytes) (maxL := maxL) ho hx1 hl hx2 hcode hy hK hg (hsize.trans hml.symm) (a := b) (argsL := As) (rest := rest) (fun sig h => hn.trans (hlen sig h)) hstack hW (by rw [hb]; exact hdg)
    (fun vm₁ hW₁ => ⟨hf.1, hf.2, hPc (T.setVm vm₁) hT hW₁⟩) with ⟨v, vm₁, ⟨U', l2, c2, s2⟩, hW₁, X', ⟨g', mk, t, L, e1, e2, hq, h1, hL, h2, h3⟩, st⟩ | ⟨q, vm₁, ⟨U', l2, c2, s2⟩, hW₁, X', ⟨g', mk, t, L, E, ce, e1, e2, hq, hce, hcv, hcl, h1, hL, h2, h3⟩, st⟩
  · dsimp only [Pt.U, Pt.locs, Pt.cells, Pt.slots] at X' e1 e2 h1 h2 h3 st
    subst h1; subst h2; subst h3
    exact Or.inl ⟨v, (T.setVm vm₁).calling g' mk (Value.ref b :: As).toArray, t, U', L, hT, X', hL, e1, e2, hq, st⟩
  · dsimp only [Pt.U, Pt.locs, Pt.cells, Pt.slots] at X' e1 e2 h1 h2 h3 st hcl
    subst h1; subst h2; subst h3
    exact Or.inr ⟨q, (T.setVm vm₁).calling g' mk (Value.ref b :: As).toArray, t, U', L, E, ce, hT, X', hL, e1, e2, hq, hce, hcv, vx_cls hW₁ hcl, st⟩
end VXID
/-! ===== END ===== -/
/-! ===== BEGIN a private method of a nest mate that may throw (follows va_callVN, va_callSN, va_runVN, va_runSN) ===== -/
section
variable {p : Program} {l : Launch} {e : Env} {R : Room} {s : State} {m : MethodId} {args : Array Value} {below : List Frame} {meth : Method} {c : Code} {H : Heap} {locs : List Loc} {cells slots : Nat}
variable {T : State}
theorem vx_callVN (X : Stand p l e R s m args below meth c T locs cells slots) (hexec : p.tables.exec = Jvm.exec) {own C : String} {index : Nat} {host : String} {y : MethodName} {bytes : ByteArray} {maxL : Nat} {ret : Option FieldType}
    (hown : s.vm.findClass own = some m.cls) (hlink : (Cond.methodLinkNest own index y host).before args s = true) (hinst : (Cond.instanceMethod y).before args s = true) (hsel : (Cond.selects C y y).before args s = true)
    (hcode : (Cond.code y bytes maxL ret).before args s = true) (hy : y.cls ≠ "java/lang/invoke/MethodHandle" ∧ y.cls ≠ "java/lang/invoke/VarHandle")
    {W : Nat} {Pre : Pt → Array Value → Prop} {Post : Pt → Array Value → Option Value → Pt → Prop} {PostX : Pt → Array Value → Addr → Pt → Prop} (hK : vx_Back l R p e below s args y 3 W Pre Post PostX)
    {b : Addr} {cellB : Cell} (hcell : T.heap[b]? = some cellB) (hobj : cellB.vm.isStatics = false) (hcls : s.vm.findClass C = some cellB.cls)
    {g : JFrame} (hg : g.method = m) (hsize : g.locals.size = c.maxLocals) {argsL rest : List Value} (hlen : ∀ sig, parseMethodDescriptor y.desc = some sig → argsL.length = sig.parameters.length)
    (hstack : g.stack = argsL.reverse ++ .ref b :: rest) (hW : 2 * g.monitorRoom + (rest.map fun v => v.category).sum ≤ W) (hdg : decode c.code g.pc = .ok (.invokevirtual index, 3))
    (hpre : ∀ vm₁, s.WarmedH vm₁ → Pre ⟨T.setVm vm₁, locs, cells, slots⟩ (Value.ref b :: argsL).toArray) :
    (∃ (v : Option Value) (vm₁ : Vm) (B : Pt), s.WarmedH vm₁ ∧ Stand p l e R s m args below meth c B.U B.locs B.cells B.slots ∧ Post ⟨T.setVm vm₁, locs, cells, slots⟩ (Value.ref b :: argsL).toArray v B ∧
      ∀ target, Steps p.tables e below (B.U.setTop { g with pc := g.pc + 3, stack := v.toList ++ rest }) target → Steps p.tables e below (T.setTop g) target) ∨
    (∃ (q : Addr) (vm₁ : Vm) (B : Pt), s.WarmedH vm₁ ∧ Stand p l e R s m args below meth c B.U B.locs B.cells B.slots ∧ PostX ⟨T.setVm vm₁, locs, cells, slots⟩ (Value.ref b :: argsL).toArray q B ∧
      Steps p.tables e below (T.setTop g) ((B.U.setTop { g with stack := rest }).pushFrame (.throwing q))) := by
  obtain ⟨mk, methM, hnamed, hmethM, hstM, habM⟩ := Cond.instanceMethod_spec hinst
  obtain ⟨methM', cM, hmethM', -, -, -, -, -, -, hsigM⟩ := Cond.code_spec hnamed hcode
  cases hmethM.symm.trans hmethM'
  obtain ⟨c2, r2, m2, q1, q2, q3, q4, kP, hkP, hkPi⟩ := Cond.selects_spec hsel
  cases hcls.symm.trans q1
  cases (State.methodFound?_of_named hnamed hy).symm.trans q2
  cases hnamed.symm.trans q3
  have hselP : selectMethod e.platform s.vm cellB.cls mk = .method mk := by rw [Launch.admits_selectMethod X.admits]; exact q4
  obtain ⟨vm₁, X₁, hstep₁⟩ := X.invokevirtualNest hexec hown hlink hnamed hmethM hstM hkP hkPi hy (a := b) (cell := cellB) hcell
    (fun z h => by rw [h] at hobj; cases hobj) hselP hmethM habM hkP hkPi (g := g) hg (argsL := argsL) (rest := rest) (hlen _ hsigM) hstack hdg
  rcases hK m meth c ⟨T.setVm vm₁, locs, cells, slots⟩ { g with stack := rest } (.invokevirtual index) mk (Value.ref b :: argsL).toArray X₁ hg hsize hdg hW (X₁.named hnamed) (hpre vm₁ X₁.warmed) with ⟨v, B, X', hpost, hsteps⟩ | ⟨q, B, X', hpost, hsteps⟩
  · exact Or.inl ⟨v, vm₁, B, X₁.warmed, X', hpost, fun target h => hstep₁ _ fun acts => by rw [doInvoke_state]; exact hsteps.trans h⟩
  · exact Or.inr ⟨q, vm₁, B, X₁.warmed, X', hpost, hstep₁ _ fun acts => by rw [doInvoke_state]; exact hsteps⟩
theorem vx_callSN (X : Stand p l e R s m args below meth c T locs cells slots) (hexec : p.tables.exec = Jvm.exec) {own : String} {index : Nat} {host : String} {y : MethodName} {bytes : ByteArray} {maxL : Nat} {ret : Option FieldType}
    (hown : s.vm.findClass own = some m.cls) (hlink : (Cond.methodLinkNest own index y host).before args s = true) (hstat : (Cond.static y).before args s = true) (hinit : (Cond.initialized y.cls).before args s = true)
    (hcode : (Cond.code y bytes maxL ret).before args s = true) (hy : y.cls ≠ "java/lang/invoke/MethodHandle" ∧ y.cls ≠ "java/lang/invoke/VarHandle")
    {W : Nat} {Pre : Pt → Array Value → Prop} {Post : Pt → Array Value → Option Value → Pt → Prop} {PostX : Pt → Array Value → Addr → Pt → Prop} (hK : vx_Back l R p e below s args y 3 W Pre Post PostX)
    {g : JFrame} (hg : g.method = m) (hsize : g.locals.size = c.maxLocals) {argsL rest : List Value} (hlen : ∀ sig, parseMethodDescriptor y.desc = some sig → argsL.length = sig.parameters.length)
    (hstack : g.stack = argsL.reverse ++ rest) (hW : 2 * g.monitorRoom + (rest.map fun v => v.category).sum ≤ W) (hdg : decode c.code g.pc = .ok (.invokestatic index, 3))
    (hpre : ∀ vm₁, s.WarmedH vm₁ → Pre ⟨T.setVm vm₁, locs, cells, slots⟩ argsL.toArray) :
    (∃ (v : Option Value) (vm₁ : Vm) (B : Pt), s.WarmedH vm₁ ∧ Stand p l e R s m args below meth c B.U B.locs B.cells B.slots ∧ Post ⟨T.setVm vm₁, locs, cells, slots⟩ argsL.toArray v B ∧
      ∀ target, Steps p.tables e below (B.U.setTop { g with pc := g.pc + 3, stack := v.toList ++ rest }) target → Steps p.tables e below (T.setTop g) target) ∨
    (∃ (q : Addr) (vm₁ : Vm) (B : Pt), s.WarmedH vm₁ ∧ Stand p l e R s m args below meth c B.U B.locs B.cells B.slots ∧ PostX ⟨T.setVm vm₁, locs, cells, slots⟩ argsL.toArray q B ∧
      Steps p.tables e below (T.setTop g) ((B.U.setTop { g with stack := rest }).pushFrame (.throwing q))) := by
  obtain ⟨mk, hnamed⟩ := Cond.code_named hcode
  obtain ⟨methM, cM, hmethM, -, -, -, -, -, -, hsigM⟩ := Cond.code_spec hnamed hcode
  have hstatic : methM.isStatic = true := Cond.static_spec hnamed hmethM hstat
  obtain ⟨kP, hkP, -⟩ := className_of_methodNamed hnamed
  have hinitP : kP.init = .initialized := Cond.initialized_spec (findClass_of_methodNamed hnamed) hkP hinit
  obtain ⟨vm₁, X₁, hstep₁⟩ := X.invokestaticNest hexec hown hlink hnamed hmethM hstatic hkP hinitP hy (g := g) hg (argsL := argsL) (rest := rest) (hlen _ hsigM) hstack hdg
  rcases hK m meth c ⟨T.setVm vm₁, locs, cells, slots⟩ { g with stack := rest } (.invokestatic index) mk argsL.toArray X₁ hg hsize hdg hW (X₁.named hnamed) (hpre vm₁ X₁.warmed) with ⟨v, B, X', hpost, hsteps⟩ | ⟨q, B, X', hpost, hsteps⟩
  · exact Or.inl ⟨v, vm₁, B, X₁.warmed, X', hpost, fun target h => hstep₁ _ fun acts => by rw [doInvoke_state]; exact hsteps.trans h⟩
  · exact Or.inr ⟨q, vm₁, B, X₁.warmed, X', hpost, hstep₁ _ fun acts => by rw [doInvoke_state]; exact hsteps⟩
theorem vx_runVN {y : MethodName} {bytes cc : ByteArray} {maxL nL mc ms n index : Nat} {ret : Option FieldType} {ws : List Cond} {rm : Room} {Pc : Array Value → State → Prop} {Qc : Array Value → State → Outcome → State → Prop} {XC : String → State → State → Prop} {free : Addr → Prop} {Ts : List Cond} {own C host : String} {b : Addr} {As rest : List Value} {g : JFrame}
    (S : CallFix p m c cc nL s args Ts own) (hM : vx_Met l y ws rm Pc Qc XC mc ms free) (cw : va_CN R s args own index y host bytes maxL ret ws rm mc ms n ∧ (Cond.instanceMethod y).before args s = true ∧ (Cond.selects C y y).before args s = true) (hp : PreV s H C b Pc As)
    (hg : g.method = m) (hn : As.length = n) (hsize : g.locals.size = nL) (hstack : g.stack = As.reverse ++ .ref b :: rest) (hW : 2 * g.monitorRoom + (rest.map fun v => v.category).sum ≤ 8) (hdg : decode cc g.pc = .ok (.invokevirtual index, 3)) (hf : cells + mc ≤ R.cells ∧ slots + ms ≤ R.slots) :
    vx_Run p l e R s m args below meth c H locs cells slots mc ms g rest (Qc (Value.ref b :: As).toArray) XC free := by
  obtain ⟨⟨⟨hrc, hrs, hfr, hlo, hws, hcw⟩, hcode, hini, hy, hlen, hl⟩, hx1, hx2⟩ := cw
  have hK : vx_Back l R p e below s args y 3 8 (PreOf R mc ms Pc) (PostOf Qc mc ms free) (vx_Post XC mc ms free) := vx_back (bytes := bytes) (maxL := maxL) (ret := ret) hM hp.1 hrc hrs hfr hlo hws hcw (fun a' U hW => word_at hW (Or.inl (by first | rfl | simp [Cond.onTables, Cond.keeps, Cond.steady])) hini)
  obtain ⟨hx, hb, hml, ho, -⟩ := S
  obtain ⟨-, ⟨cellB, hcB, hoB, hclB⟩, hPc⟩ := hp
  intro T hT X
  rcases vx_callVN X hx (C := C) (bytes := bytes) (maxL := maxL) (ret := ret) ho hl hx1 hx2 hcode hy hK (by rw [hT]; exact hcB) hoB hclB hg (hsize.trans hml.symm) (argsL := As) (rest := rest) (fun sig h => hn.trans (hlen sig h)) hstack hW (by rw [hb]; exact hdg)
    (fun vm₁ hW₁ => ⟨hf.1, hf.2, hPc (T.setVm vm₁) hT hW₁⟩) with ⟨v, vm₁, ⟨U', l2, c2, s2⟩, hW₁, X', ⟨g', mk, t, L, e1, e2, hq, h1, hL, h2, h3⟩, st⟩ | ⟨q, vm₁, ⟨U', l2, c2, s2⟩, hW₁, X', ⟨g', mk, t, L, E, ce, e1, e2, hq, hce, hcv, hcl, h1, hL, h2, h3⟩, st⟩
  · dsimp only [Pt.U, Pt.locs, Pt.cells, Pt.slots] at X' e1 e2 h1 h2 h3 st
    subst h1; subst h2; subst h3
    exact Or.inl ⟨v, (T.setVm vm₁).calling g' mk (Value.ref b :: As).toArray, t, U', L, hT, X', hL, e1, e2, hq, st⟩
  · dsimp only [Pt.U, Pt.locs, Pt.cells, Pt.slots] at X' e1 e2 h1 h2 h3 st hcl
    subst h1; subst h2; subst h3
    exact Or.inr ⟨q, (T.setVm vm₁).calling g' mk (Value.ref b :: As).toArray, t, U', L, E, ce, hT, X', hL, e1, e2, hq, hce, hcv, vx_cls hW₁ hcl, st⟩
theorem vx_runSN {y : MethodName} {bytes cc : ByteArray} {maxL nL mc ms n index : Nat} {ret : Option FieldType} {ws : List Cond} {rm : Room} {Pc : Array Value → State → Prop} {Qc : Array Value → State → Outcome → State → Prop} {XC : String → State → State → Prop} {free : Addr → Prop} {Ts : List Cond} {own host : String} {As rest : List Value} {g : JFrame}
    (S : CallFix p m c cc nL s args Ts own) (hM : vx_Met l y ws rm Pc Qc XC mc ms free) (cw : va_CN R s args own index y host bytes maxL ret ws rm mc ms n ∧ (Cond.static y).before args s = true ∧ True) (hp : PreS s H Pc As)
    (hg : g.method = m) (hn : As.length = n) (hsize : g.locals.size = nL) (hstack : g.stack = As.reverse ++ rest) (hW : 2 * g.monitorRoom + (rest.map fun v => v.category).sum ≤ 8) (hdg : decode cc g.pc = .ok (.invokestatic index, 3)) (hf : cells + mc ≤ R.cells ∧ slots + ms ≤ R.slots) :
    vx_Run p l e R s m args below meth c H locs cells slots mc ms g rest (Qc As.toArray) XC free := by
  obtain ⟨⟨⟨hrc, hrs, hfr, hlo, hws, hcw⟩, hcode, hini, hy, hlen, hl⟩, hx1, hx2⟩ := cw
  have hK : vx_Back l R p e below s args y 3 8 (PreOf R mc ms Pc) (PostOf Qc mc ms free) (vx_Post XC mc ms free) := vx_back (bytes := bytes) (maxL := maxL) (ret := ret) hM hp.1 hrc hrs hfr hlo hws hcw (fun a' U hW => word_at hW (Or.inl (by first | rfl | simp [Cond.onTables, Cond.keeps, Cond.steady])) hini)
  obtain ⟨hx, hb, hml, ho, -⟩ := S
  have hPc := hp.2
  intro T hT X
  rcases vx_callSN X hx (bytes := bytes) (maxL := maxL) (ret := ret) ho hl hx1 hini hcode hy hK hg (hsize.trans hml.symm) (argsL := As) (rest := rest) (fun sig h => hn.trans (hlen sig h)) hstack hW (by rw [hb]; exact hdg)
    (fun vm₁ hW₁ => ⟨hf.1, hf.2, hPc (T.setVm vm₁) hT hW₁⟩) with ⟨v, vm₁, ⟨U', l2, c2, s2⟩, hW₁, X', ⟨g', mk, t, L, e1, e2, hq, h1, hL, h2, h3⟩, st⟩ | ⟨q, vm₁, ⟨U', l2, c2, s2⟩, hW₁, X', ⟨g', mk, t, L, E, ce, e1, e2, hq, hce, hcv, hcl, h1, hL, h2, h3⟩, st⟩
  · dsimp only [Pt.U, Pt.locs, Pt.cells, Pt.slots] at X' e1 e2 h1 h2 h3 st
    subst h1; subst h2; subst h3
    exact Or.inl ⟨v, (T.setVm vm₁).calling g' mk As.toArray, t, U', L, hT, X', hL, e1, e2, hq, st⟩
  · dsimp only [Pt.U, Pt.locs, Pt.cells, Pt.slots] at X' e1 e2 h1 h2 h3 st hcl
    subst h1; subst h2; subst h3
    exact Or.inr ⟨q, (T.setVm vm₁).calling g' mk As.toArray, t, U', L, E, ce, hT, X', hL, e1, e2, hq, hce, hcv, vx_cls hW₁ hcl, st⟩
end
/-! ===== END ===== -/
end
section
/-! A small machine beside the machine: cells by their place, values with places for addresses. Its runs are functions; part 04 and on say that the machine does what they say. -/
/-- a cell: an array (its kind, its length, what it holds) or an object (its class, its fields) -/
abbrev mj_E : Type := (Nat × Nat × (Nat → Value)) ⊕ (Nat × List Value)
abbrev mj_H : Type := List mj_E
/-- an instruction, and what it was resolved to -/
abbrev mj_I : Type := Instr × Nat × Nat × Nat × Nat × Nat
abbrev mj_L : Type := List (Option Value)
/-- where a run goes on -/
abbrev mj_S : Type := Nat × mj_L × List Value × mj_H
/-- how a method ends: with a value or none, or by the exception of that number -/
abbrev mj_R : Type := (Option Value ⊕ Nat) × mj_H
def mj_st1 (loc : mj_L) (i : Nat) (v : Value) : mj_L :=
  (match i with
  | 0 => loc
  | j + 1 => match loc[j]? with
    | some (some (.long _)) => loc.set j none
    | some (some (.double _)) => loc.set j none
    | _ => loc).set i (some v)
def mj_st2 (loc : mj_L) (i : Nat) (v : Value) : mj_L := (mj_st1 loc i v).set (i + 1) none
/-- an index that lies in an array of n places -/
def mj_in (i : Int32) (n : Nat) : Bool := decide (0 ≤ i) && Nat.blt i.toNatClampNeg n
/-- what a field of that kind takes: 0 int, 1 long, 2 boolean, 3 a reference -/
def mj_fit (k : Nat) (v : Value) : Bool := match k, v with
  | 0, .int _ => true
  | 1, .long _ => true
  | 2, .int x => decide (x = 0) || decide (x = 1)
  | 3, .ref _ => true
  | _, _ => false
def mj_load1 (loc : mj_L) (i : Nat) : Option Value := match loc[i]? with
  | some (some (.int x)) => some (.int x)
  | _ => none
def mj_loadL (loc : mj_L) (i : Nat) : Option Value := match loc[i]? with
  | some (some (.long x)) => some (.long x)
  | _ => none
def mj_loadD (loc : mj_L) (i : Nat) : Option Value := match loc[i]? with
  | some (some (.double x)) => some (.double x)
  | _ => none
def mj_loadA (loc : mj_L) (i : Nat) : Option Value := match loc[i]? with
  | some (some (.ref x)) => some (.ref x)
  | _ => none
def mj_cnd (c : ClassFile.Cond) (x y : Int32) : Bool := match c with
  | .eq => decide (x = y)
  | .ne => !decide (x = y)
  | .lt => decide (x < y)
  | .ge => decide (y ≤ x)
  | .gt => decide (y < x)
  | .le => decide (x ≤ y)
/-- the class whose objects an array of that kind holds -/
def mj_el (t : Nat) : Option Nat := match t with
  | 3 => some 0
  | 4 => some 3
  | 5 => some 8
  | _ => none
def mj_isref (t : Nat) : Bool := match t with
  | 3 => true
  | 4 => true
  | 5 => true
  | 6 => true
  | _ => false
def mj_df (t : Nat) : Value := match t with
  | 1 => .long 0
  | 0 => .int 0
  | 2 => .int 0
  | _ => .null
/-- the bytes of a place of an array of that kind -/
def mj_by (t : Nat) : Nat := match t with
  | 0 => 4
  | 1 => 8
  | 2 => 1
  | _ => 4
def mj_rows (n k z : Nat) : mj_H := (List.range n).map (fun _ => .inl (1, k, fun _ => .long 0))
/-- one step that stays in its method -/
def mj_step (ins : Instr) (r1 r2 r3 : Nat) (flds : Nat → List Value) (pc : Nat) (loc : mj_L) (st : List Value) (h : mj_H) : Option mj_S :=
  match ins with
  | .iconst n => some (pc + 1, loc, .int (Int32.ofInt n) :: st, h)
  | .bipush n => some (pc + 2, loc, .int (Int32.ofInt n) :: st, h)
  | .sipush n => some (pc + 3, loc, .int (Int32.ofInt n) :: st, h)
  | .lconst n => some (pc + 1, loc, .long (Int64.ofNat n.val) :: st, h)
  | .ldc _ => some (pc + 2, loc, (match r2 with | 0 => .int (Int32.ofNat r1) | _ => .float (UInt32.ofNat r1)) :: st, h)
  | .ldc_w _ => some (pc + 3, loc, (match r2 with | 0 => .int (Int32.ofNat r1) | _ => .float (UInt32.ofNat r1)) :: st, h)
  | .ldc2_w _ => some (pc + 3, loc, (match r2 with | 0 => .long (Int64.ofNat r1) | _ => .double (UInt64.ofNat r1)) :: st, h)
  | .iload_n n => (mj_load1 loc n.val).map fun v => (pc + 1, loc, v :: st, h)
  | .iload n => (mj_load1 loc n).map fun v => (pc + 2, loc, v :: st, h)
  | .lload_n n => (mj_loadL loc n.val).map fun v => (pc + 1, loc, v :: st, h)
  | .lload n => (mj_loadL loc n).map fun v => (pc + 2, loc, v :: st, h)
  | .dload_n n => (mj_loadD loc n.val).map fun v => (pc + 1, loc, v :: st, h)
  | .dload n => (mj_loadD loc n).map fun v => (pc + 2, loc, v :: st, h)
  | .aload_n n => (mj_loadA loc n.val).map fun v => (pc + 1, loc, v :: st, h)
  | .aload n => (mj_loadA loc n).map fun v => (pc + 2, loc, v :: st, h)
  | .istore_n n => match st with
    | .int x :: st => if n.val < loc.length then some (pc + 1, mj_st1 loc n.val (.int x), st, h) else none
    | _ => none
  | .istore n => match st with
    | .int x :: st => if n < loc.length then some (pc + 2, mj_st1 loc n (.int x), st, h) else none
    | _ => none
  | .astore_n n => match st with
    | .ref x :: st => if n.val < loc.length then some (pc + 1, mj_st1 loc n.val (.ref x), st, h) else none
    | _ => none
  | .astore n => match st with
    | .ref x :: st => if n < loc.length then some (pc + 2, mj_st1 loc n (.ref x), st, h) else none
    | _ => none
  | .lstore_n n => match st with
    | .long x :: st => if n.val + 1 < loc.length then some (pc + 1, mj_st2 loc n.val (.long x), st, h) else none
    | _ => none
  | .lstore n => match st with
    | .long x :: st => if n + 1 < loc.length then some (pc + 2, mj_st2 loc n (.long x), st, h) else none
    | _ => none
  | .dstore_n n => match st with
    | .double x :: st => if n.val + 1 < loc.length then some (pc + 1, mj_st2 loc n.val (.double x), st, h) else none
    | _ => none
  | .dstore n => match st with
    | .double x :: st => if n + 1 < loc.length then some (pc + 2, mj_st2 loc n (.double x), st, h) else none
    | _ => none
  | .iinc n c => match loc[n]? with
    | some (some (.int x)) => some (pc + 3, mj_st1 loc n (.int (x + Int32.ofInt c)), st, h)
    | _ => none
  | .iadd => match st with
    | .int y :: .int x :: st => some (pc + 1, loc, .int (x + y) :: st, h)
    | _ => none
  | .isub => match st with
    | .int y :: .int x :: st => some (pc + 1, loc, .int (x - y) :: st, h)
    | _ => none
  | .imul => match st with
    | .int y :: .int x :: st => some (pc + 1, loc, .int (x * y) :: st, h)
    | _ => none
  | .idiv => match st with
    | .int y :: .int x :: st => if y = 0 then none else some (pc + 1, loc, .int (x / y) :: st, h)
    | _ => none
  | .irem => match st with
    | .int y :: .int x :: st => if y = 0 then none else some (pc + 1, loc, .int (x - x / y * y) :: st, h)
    | _ => none
  | .ineg => match st with
    | .int x :: st => some (pc + 1, loc, .int (-x) :: st, h)
    | _ => none
  | .iand => match st with
    | .int y :: .int x :: st => some (pc + 1, loc, .int (x &&& y) :: st, h)
    | _ => none
  | .ishr => match st with
    | .int y :: .int x :: st => some (pc + 1, loc, .int (x >>> (y &&& 31)) :: st, h)
    | _ => none
  | .iushr => match st with
    | .int y :: .int x :: st => some (pc + 1, loc, .int ((x.toUInt32 >>> (y.toUInt32 &&& Int32.toUInt32 31)).toInt32) :: st, h)
    | _ => none
  | .ladd => match st with
    | .long y :: .long x :: st => some (pc + 1, loc, .long (x + y) :: st, h)
    | _ => none
  | .lsub => match st with
    | .long y :: .long x :: st => some (pc + 1, loc, .long (x - y) :: st, h)
    | _ => none
  | .lmul => match st with
    | .long y :: .long x :: st => some (pc + 1, loc, .long (x * y) :: st, h)
    | _ => none
  | .ldiv => match st with
    | .long y :: .long x :: st => if y = 0 then none else some (pc + 1, loc, .long (x / y) :: st, h)
    | _ => none
  | .lrem => match st with
    | .long y :: .long x :: st => if y = 0 then none else some (pc + 1, loc, .long (x - x / y * y) :: st, h)
    | _ => none
  | .lneg => match st with
    | .long x :: st => some (pc + 1, loc, .long (-x) :: st, h)
    | _ => none
  | .land => match st with
    | .long y :: .long x :: st => some (pc + 1, loc, .long (x &&& y) :: st, h)
    | _ => none
  | .lor => match st with
    | .long y :: .long x :: st => some (pc + 1, loc, .long (x ||| y) :: st, h)
    | _ => none
  | .lshl => match st with
    | .int y :: .long x :: st => some (pc + 1, loc, .long (x <<< (y.toInt64 &&& 63)) :: st, h)
    | _ => none
  | .lcmp => match st with
    | .long y :: .long x :: st => some (pc + 1, loc, .int (lg_cmp x y) :: st, h)
    | _ => none
  | .i2l => match st with
    | .int x :: st => some (pc + 1, loc, .long x.toInt64 :: st, h)
    | _ => none
  | .l2i => match st with
    | .long x :: st => some (pc + 1, loc, .int x.toInt32 :: st, h)
    | _ => none
  | .i2b => match st with
    | .int x :: st => some (pc + 1, loc, .int x.toInt8.toInt32 :: st, h)
    | _ => none
  | .dup => match st with
    | .int x :: st => some (pc + 1, loc, .int x :: .int x :: st, h)
    | .ref x :: st => some (pc + 1, loc, .ref x :: .ref x :: st, h)
    | _ => none
  | .dup2 => match st with
    | .int x :: .ref y :: st => some (pc + 1, loc, .int x :: .ref y :: .int x :: .ref y :: st, h)
    | _ => none
  | .pop => match st with
    | .int _ :: st => some (pc + 1, loc, st, h)
    | _ => none
  | .pop2 => match st with
    | .long _ :: st => some (pc + 1, loc, st, h)
    | .double _ :: st => some (pc + 1, loc, st, h)
    | _ => none
  | .goto _ => some (r1, loc, st, h)
  | .ifCond c _ => match st with
    | .int x :: st => some (if mj_cnd c x 0 then r1 else pc + 3, loc, st, h)
    | _ => none
  | .if_icmp c _ => match st with
    | .int y :: .int x :: st => some (if mj_cnd c x y then r1 else pc + 3, loc, st, h)
    | _ => none
  | .tableswitch dflt lo hi offs => match st with
    | .int x :: st =>
      if x.toInt < lo ∨ hi < x.toInt then (if 0 ≤ (pc : Int) + dflt then some (((pc : Int) + dflt).toNat, loc, st, h) else none)
      else match offs[(x.toInt - lo).toNat]? with
        | some off => if 0 ≤ (pc : Int) + off then some (((pc : Int) + off).toNat, loc, st, h) else none
        | none => none
    | _ => none
  | .i2f => match st with
    | .int x :: st => some (pc + 1, loc, .float (FP.i2f x) :: st, h)
    | _ => none
  | .i2d => match st with
    | .int x :: st => some (pc + 1, loc, .double (FP.i2d x) :: st, h)
    | _ => none
  | .fdiv => match st with
    | .float y :: .float x :: st => if FP.fdiv x y &&& 0x7fffffff ≤ 0x7f800000 then some (pc + 1, loc, .float (FP.fdiv x y) :: st, h) else none
    | _ => none
  | .ddiv => match st with
    | .double y :: .double x :: st => if FP.ddiv x y &&& 0x7fffffffffffffff ≤ 0x7ff0000000000000 then some (pc + 1, loc, .double (FP.ddiv x y) :: st, h) else none
    | _ => none
  | .f2d => match st with
    | .float x :: st => if FP.f2d x &&& 0x7fffffffffffffff ≤ 0x7ff0000000000000 then some (pc + 1, loc, .double (FP.f2d x) :: st, h) else none
    | _ => none
  | .dcmp op => match st with
    | .double y :: .double x :: st => some (pc + 1, loc, .int (Op.cmpValue (FP.dcmp x y) op) :: st, h)
    | _ => none
  | .getfield _ => match st with
    | .ref a :: st => match h[a]? with
      | some (.inr (ci, fs)) => if ci = r1 then (match fs[r2]? with
        | some v => some (pc + 3, loc, v :: st, h)
        | none => none) else none
      | _ => none
    | _ => none
  | .putfield _ => match st with
    | v :: .ref a :: st => match h[a]? with
      | some (.inr (ci, fs)) => if ci = r1 ∧ r2 < fs.length ∧ mj_fit r3 v = true then some (pc + 3, loc, st, h.set a (.inr (ci, fs.set r2 v))) else none
      | _ => none
    | _ => none
  | .arraylength => match st with
    | .ref a :: st => match h[a]? with
      | some (.inl (_, n, _)) => some (pc + 1, loc, .int (nI n) :: st, h)
      | _ => none
    | _ => none
  | .iaload => match st with
    | .int i :: .ref a :: st => match h[a]? with
      | some (.inl (t, n, f)) => if (t = 0 ∨ t = 100) ∧ mj_in i n = true then some (pc + 1, loc, f i.toNatClampNeg :: st, h) else none
      | _ => none
    | _ => none
  | .laload => match st with
    | .int i :: .ref a :: st => match h[a]? with
      | some (.inl (t, n, f)) => if t = 1 ∧ mj_in i n = true then some (pc + 1, loc, f i.toNatClampNeg :: st, h) else none
      | _ => none
    | _ => none
  | .baload => match st with
    | .int i :: .ref a :: st => match h[a]? with
      | some (.inl (t, n, f)) => if t = 2 ∧ mj_in i n = true then some (pc + 1, loc, f i.toNatClampNeg :: st, h) else none
      | _ => none
    | _ => none
  | .aaload => match st with
    | .int i :: .ref a :: st => match h[a]? with
      | some (.inl (t, n, f)) => if mj_isref t = true ∧ mj_in i n = true then some (pc + 1, loc, f i.toNatClampNeg :: st, h) else none
      | _ => none
    | _ => none
  | .iastore => match st with
    | .int x :: .int i :: .ref a :: st => match h[a]? with
      | some (.inl (t, n, f)) => if t = 0 ∧ mj_in i n = true then some (pc + 1, loc, st, h.set a (.inl (t, n, updV f i.toNatClampNeg (.int x)))) else none
      | _ => none
    | _ => none
  | .lastore => match st with
    | .long x :: .int i :: .ref a :: st => match h[a]? with
      | some (.inl (t, n, f)) => if t = 1 ∧ mj_in i n = true then some (pc + 1, loc, st, h.set a (.inl (t, n, updV f i.toNatClampNeg (.long x)))) else none
      | _ => none
    | _ => none
  | .bastore => match st with
    | .int x :: .int i :: .ref a :: st => match h[a]? with
      | some (.inl (t, n, f)) => if t = 2 ∧ mj_in i n = true then some (pc + 1, loc, st, h.set a (.inl (t, n, updV f i.toNatClampNeg (.int x.toInt8.toInt32)))) else none
      | _ => none
    | _ => none
  | .aastore => match st with
    | .ref v :: .int i :: .ref a :: st => match h[a]? with
      | some (.inl (t, n, f)) => match h[v]? with
        | some (.inr (cv, _)) => if mj_el t = some cv ∧ mj_in i n = true then some (pc + 1, loc, st, h.set a (.inl (t, n, updV f i.toNatClampNeg (.ref v)))) else none
        | _ => none
      | _ => none
    | _ => none
  | .newarray _ => match st with
    | .int n :: st => if 0 ≤ n ∧ n.toNatClampNeg * 8 ≤ 536870912 ∧ r1 ≤ 2 then some (pc + 2, loc, .ref h.length :: st, h ++ [.inl (r1, n.toNatClampNeg, fun _ => mj_df r1)]) else none
    | _ => none
  | .anewarray _ => match st with
    | .int n :: st => if 0 ≤ n ∧ n.toNatClampNeg * 4 ≤ 536870912 then some (pc + 3, loc, .ref h.length :: st, h ++ [.inl (r1, n.toNatClampNeg, fun _ => .null)]) else none
    | _ => none
  | .multianewarray _ _ => match st with
    | .int k :: .int n :: st => if 0 ≤ n ∧ 0 ≤ k ∧ n.toNatClampNeg * 4 ≤ 536870912 ∧ k.toNatClampNeg * 8 ≤ 536870912 then some (pc + 4, loc, .ref h.length :: st, h ++ (.inl (6, n.toNatClampNeg, fun i => if i < n.toNatClampNeg then .ref (h.length + 1 + i) else .null) :: mj_rows n.toNatClampNeg k.toNatClampNeg 0)) else none
    | _ => none
  | .new _ => some (pc + 3, loc, .ref h.length :: st, h ++ [.inr (r1, flds r1)])
  | _ => none
end
section
def mj_T0 : u_T := fun k => match k with
  | 0 => ("PolyRegisters$Bench", "rows", "[[J", true)
  | 1 => ("PolyRegisters$Bench", "places", "[I", true)
  | 2 => ("PolyRegisters$Bench", "heights", "[I", true)
  | _ => ("PolyRegisters$Bench", "points", "I", false)
def mj_y0 : Nat → FieldType := fun k => match k with
  | 0 => .array (.array .long)
  | 1 => .array .int
  | 2 => .array .int
  | _ => .int
def mj_T1 : u_T := fun k => match k with
  | 0 => ("PolyRegisters$Desk", "left", "LPolyRegisters$Poly;", true)
  | 1 => ("PolyRegisters$Desk", "right", "LPolyRegisters$Poly;", true)
  | 2 => ("PolyRegisters$Desk", "rest", "LPolyRegisters$Poly;", true)
  | 3 => ("PolyRegisters$Desk", "product", "LPolyRegisters$Poly;", true)
  | 4 => ("PolyRegisters$Desk", "one", "LPolyRegisters$Wide;", true)
  | 5 => ("PolyRegisters$Desk", "two", "LPolyRegisters$Wide;", true)
  | 6 => ("PolyRegisters$Desk", "small", "LPolyRegisters$Wide;", true)
  | _ => ("PolyRegisters$Desk", "divisor", "LPolyRegisters$Divisor;", true)
def mj_y1 : Nat → FieldType := fun k => match k with
  | 0 => .object "PolyRegisters$Poly"
  | 1 => .object "PolyRegisters$Poly"
  | 2 => .object "PolyRegisters$Poly"
  | 3 => .object "PolyRegisters$Poly"
  | 4 => .object "PolyRegisters$Wide"
  | 5 => .object "PolyRegisters$Wide"
  | 6 => .object "PolyRegisters$Wide"
  | _ => .object "PolyRegisters$Divisor"
def mj_T2 : u_T := fun k => match k with
  | 0 => ("PolyRegisters$Divisor", "limbs", "[I", true)
  | 1 => ("PolyRegisters$Divisor", "size", "I", false)
  | 2 => ("PolyRegisters$Divisor", "sign", "I", false)
  | _ => ("PolyRegisters$Divisor", "factor", "J", false)
def mj_y2 : Nat → FieldType := fun k => match k with
  | 0 => .array .int
  | 1 => .int
  | 2 => .int
  | _ => .long
def mj_T3 : u_T := fun k => match k with
  | 0 => ("PolyRegisters$Poly", "parts", "[LPolyRegisters$Wide;", true)
  | 1 => ("PolyRegisters$Poly", "beyond", "LPolyRegisters$Wide;", true)
  | _ => ("PolyRegisters$Poly", "degree", "I", false)
def mj_y3 : Nat → FieldType := fun k => match k with
  | 0 => .array (.object "PolyRegisters$Wide")
  | 1 => .object "PolyRegisters$Wide"
  | _ => .int
def mj_T4 : u_T := fun k => match k with
  | 0 => ("PolyRegisters$Reader", "desk", "LPolyRegisters$Desk;", true)
  | 1 => ("PolyRegisters$Reader", "text", "LPolyRegisters$Text;", false)
  | 2 => ("PolyRegisters$Reader", "place", "I", false)
  | 3 => ("PolyRegisters$Reader", "error", "I", false)
  | 4 => ("PolyRegisters$Reader", "isTooGreat", "Z", false)
  | 5 => ("PolyRegisters$Reader", "sums", "[[J", true)
  | 6 => ("PolyRegisters$Reader", "products", "[[J", true)
  | _ => ("PolyRegisters$Reader", "factor", "[J", true)
def mj_y4 : Nat → FieldType := fun k => match k with
  | 0 => .object "PolyRegisters$Desk"
  | 1 => .object "PolyRegisters$Text"
  | 2 => .int
  | 3 => .int
  | 4 => .boolean
  | 5 => .array (.array .long)
  | 6 => .array (.array .long)
  | _ => .array .long
def mj_T5 : u_T := fun k => match k with
  | 0 => ("PolyRegisters$Roots", "desk", "LPolyRegisters$Desk;", true)
  | 1 => ("PolyRegisters$Roots", "sturm", "LPolyRegisters$Sturm;", true)
  | 2 => ("PolyRegisters$Roots", "isSimple", "Z", false)
  | 3 => ("PolyRegisters$Roots", "count", "I", false)
  | 4 => ("PolyRegisters$Roots", "changesBelow", "I", false)
  | 5 => ("PolyRegisters$Roots", "scale", "J", false)
  | 6 => ("PolyRegisters$Roots", "low", "LPolyRegisters$Wide;", true)
  | 7 => ("PolyRegisters$Roots", "isExact", "Z", false)
  | 8 => ("PolyRegisters$Roots", "bound", "LPolyRegisters$Wide;", true)
  | 9 => ("PolyRegisters$Roots", "step", "LPolyRegisters$Wide;", true)
  | 10 => ("PolyRegisters$Roots", "tried", "LPolyRegisters$Wide;", true)
  | _ => ("PolyRegisters$Roots", "unit", "LPolyRegisters$Wide;", true)
def mj_y5 : Nat → FieldType := fun k => match k with
  | 0 => .object "PolyRegisters$Desk"
  | 1 => .object "PolyRegisters$Sturm"
  | 2 => .boolean
  | 3 => .int
  | 4 => .int
  | 5 => .long
  | 6 => .object "PolyRegisters$Wide"
  | 7 => .boolean
  | 8 => .object "PolyRegisters$Wide"
  | 9 => .object "PolyRegisters$Wide"
  | 10 => .object "PolyRegisters$Wide"
  | _ => .object "PolyRegisters$Wide"
def mj_T6 : u_T := fun k => match k with
  | 0 => ("PolyRegisters$Sturm", "desk", "LPolyRegisters$Desk;", true)
  | 1 => ("PolyRegisters$Sturm", "row", "[LPolyRegisters$Poly;", true)
  | 2 => ("PolyRegisters$Sturm", "length", "I", false)
  | 3 => ("PolyRegisters$Sturm", "lead", "LPolyRegisters$Wide;", true)
  | 4 => ("PolyRegisters$Sturm", "known", "LPolyRegisters$Wide;", true)
  | _ => ("PolyRegisters$Sturm", "place", "LPolyRegisters$Wide;", true)
def mj_y6 : Nat → FieldType := fun k => match k with
  | 0 => .object "PolyRegisters$Desk"
  | 1 => .array (.object "PolyRegisters$Poly")
  | 2 => .int
  | 3 => .object "PolyRegisters$Wide"
  | 4 => .object "PolyRegisters$Wide"
  | _ => .object "PolyRegisters$Wide"
def mj_T7 : u_T := fun k => match k with
  | 0 => ("PolyRegisters$Text", "bytes", "[B", true)
  | _ => ("PolyRegisters$Text", "length", "I", false)
def mj_y7 : Nat → FieldType := fun k => match k with
  | 0 => .array .byte
  | _ => .int
def mj_T8 : u_T := fun k => match k with
  | 0 => ("PolyRegisters$Wide", "limbs", "[I", true)
  | 1 => ("PolyRegisters$Wide", "size", "I", false)
  | _ => ("PolyRegisters$Wide", "sign", "I", false)
def mj_y8 : Nat → FieldType := fun k => match k with
  | 0 => .array .int
  | 1 => .int
  | _ => .int
def mj_T9 : u_T := fun k => match k with
  | 0 => ("PolyRegisters", "bench", "LPolyRegisters$Bench;", true)
  | 1 => ("PolyRegisters", "earlier", "[LPolyRegisters$Bench;", true)
  | 2 => ("PolyRegisters", "undoable", "I", false)
  | 3 => ("PolyRegisters", "nextEarlier", "I", false)
  | 4 => ("PolyRegisters", "buffer", "LPolyRegisters$Text;", true)
  | 5 => ("PolyRegisters", "written", "LPolyRegisters$Text;", true)
  | 6 => ("PolyRegisters", "spare", "LPolyRegisters$Text;", true)
  | 7 => ("PolyRegisters", "desk", "LPolyRegisters$Desk;", true)
  | 8 => ("PolyRegisters", "sturm", "LPolyRegisters$Sturm;", true)
  | 9 => ("PolyRegisters", "roots", "LPolyRegisters$Roots;", true)
  | 10 => ("PolyRegisters", "reader", "LPolyRegisters$Reader;", true)
  | 11 => ("PolyRegisters", "toldTop", "LPolyRegisters$Wide;", true)
  | 12 => ("PolyRegisters", "toldBottom", "LPolyRegisters$Wide;", true)
  | 13 => ("PolyRegisters", "result", "[J", true)
  | 14 => ("PolyRegisters", "second", "[J", true)
  | _ => ("PolyRegisters", "errorAt", "I", false)
def mj_y9 : Nat → FieldType := fun k => match k with
  | 0 => .object "PolyRegisters$Bench"
  | 1 => .array (.object "PolyRegisters$Bench")
  | 2 => .int
  | 3 => .int
  | 4 => .object "PolyRegisters$Text"
  | 5 => .object "PolyRegisters$Text"
  | 6 => .object "PolyRegisters$Text"
  | 7 => .object "PolyRegisters$Desk"
  | 8 => .object "PolyRegisters$Sturm"
  | 9 => .object "PolyRegisters$Roots"
  | 10 => .object "PolyRegisters$Reader"
  | 11 => .object "PolyRegisters$Wide"
  | 12 => .object "PolyRegisters$Wide"
  | 13 => .array .long
  | 14 => .array .long
  | _ => .int
def mj_T10 : u_T := fun k => match k with
  | 0 => ("PolyRegistersModel", "now", "[J", true)
  | 1 => ("PolyRegistersModel", "before", "[J", true)
  | 2 => ("PolyRegistersModel", "changes", "I", false)
  | 3 => ("PolyRegistersModel", "thrown", "I", false)
  | 4 => ("PolyRegistersModel", "big", "[I", true)
  | 5 => ("PolyRegistersModel", "over", "[I", true)
  | 6 => ("PolyRegistersModel", "by", "[I", true)
  | 7 => ("PolyRegistersModel", "rowLength", "I", false)
  | 8 => ("PolyRegistersModel", "text", "[I", true)
  | 9 => ("PolyRegistersModel", "textMany", "I", false)
  | 10 => ("PolyRegistersModel", "at", "I", false)
  | 11 => ("PolyRegistersModel", "open", "I", false)
  | 12 => ("PolyRegistersModel", "error", "I", false)
  | 13 => ("PolyRegistersModel", "isBeyond", "Z", false)
  | 14 => ("PolyRegistersModel", "written", "[I", true)
  | _ => ("PolyRegistersModel", "writtenMany", "I", false)
def mj_y10 : Nat → FieldType := fun k => match k with
  | 0 => .array .long
  | 1 => .array .long
  | 2 => .int
  | 3 => .int
  | 4 => .array .int
  | 5 => .array .int
  | 6 => .array .int
  | 7 => .int
  | 8 => .array .int
  | 9 => .int
  | 10 => .int
  | 11 => .int
  | 12 => .int
  | 13 => .boolean
  | 14 => .array .int
  | _ => .int
abbrev mj_cl : List vw_C := [("PolyRegisters$Bench", mj_T0, 4), ("PolyRegisters$Desk", mj_T1, 8), ("PolyRegisters$Divisor", mj_T2, 4), ("PolyRegisters$Poly", mj_T3, 3), ("PolyRegisters$Reader", mj_T4, 8), ("PolyRegisters$Roots", mj_T5, 12), ("PolyRegisters$Sturm", mj_T6, 6), ("PolyRegisters$Text", mj_T7, 2), ("PolyRegisters$Wide", mj_T8, 3), ("PolyRegisters", mj_T9, 16), ("PolyRegistersModel", mj_T10, 16)]
def mj_ft (ci : Nat) : Nat → FieldType := match ci with
  | 0 => mj_y0
  | 1 => mj_y1
  | 2 => mj_y2
  | 3 => mj_y3
  | 4 => mj_y4
  | 5 => mj_y5
  | 6 => mj_y6
  | 7 => mj_y7
  | 8 => mj_y8
  | 9 => mj_y9
  | _ => mj_y10
def mj_nc (ci : Nat) : Nat := match ci with
  | 0 => 4
  | 1 => 8
  | 2 => 4
  | 3 => 3
  | 4 => 8
  | 5 => 12
  | 6 => 6
  | 7 => 2
  | 8 => 3
  | 9 => 16
  | _ => 16
def mj_kd (t : FieldType) : Nat := match t with
  | .int => 0
  | .long => 1
  | .boolean => 2
  | _ => 3
/-- a new object's fields -/
def mj_new (ci : Nat) : List Value := (List.range (mj_nc ci)).map (fun k => defaultValue (mj_ft ci k))
def mj_tt (t : Nat) : FieldType := match t with
  | 0 => .int
  | 1 => .long
  | 2 => .byte
  | 3 => .object "PolyRegisters$Bench"
  | 4 => .object "PolyRegisters$Poly"
  | 5 => .object "PolyRegisters$Wide"
  | _ => .array .long
abbrev mj_tys (dA : Nat → ClassId) : List (ClassId × FieldType) := [(dA 0, .int), (dA 1, .long), (dA 2, .byte), (dA 3, .object "PolyRegisters$Bench"), (dA 4, .object "PolyRegisters$Poly"), (dA 5, .object "PolyRegisters$Wide"), (dA 6, .array .long)]
/-- a word that stands as long as the tables only grow warm -/
def mj_mv (w : Jvm.Cond) : Bool := goodWord w || (match w with
  | .fieldLinkNest _ _ _ _ _ _ => true
  | .methodLinkNest _ _ _ _ => true
  | .castable _ _ => true
  | .arrayOver (.object _) => true
  | .arrayOver (.array _) => true
  | _ => false)
def mj_inw (w : Jvm.Cond) : Bool := decide (w ∈ lw_tbl) && mj_mv w
def mj_clsB (ci : Nat) (q : vw_C) : Bool :=
  ((List.range q.2.2).all fun k => mj_inw (u_lay q.1 q.2.1 k) && decide (parseFieldDescriptor (q.2.1 k).2.2.1 = some (mj_ft ci k)) && (List.range q.2.2).all fun j => decide (k = j) || decide ((q.2.1 k).2.1 ≠ (q.2.1 j).2.1)) &&
  mj_inw (.instantiable q.1 q.2.2) && mj_inw (.initialized q.1) && decide (q.2.2 = mj_nc ci)
theorem mj_c0 : mj_clsB 0 ("PolyRegisters$Bench", mj_T0, 4) = true := by decide +kernel
theorem mj_c1 : mj_clsB 1 ("PolyRegisters$Desk", mj_T1, 8) = true := by decide +kernel
theorem mj_c2 : mj_clsB 2 ("PolyRegisters$Divisor", mj_T2, 4) = true := by decide +kernel
theorem mj_c3 : mj_clsB 3 ("PolyRegisters$Poly", mj_T3, 3) = true := by decide +kernel
theorem mj_c4 : mj_clsB 4 ("PolyRegisters$Reader", mj_T4, 8) = true := by decide +kernel
theorem mj_c5 : mj_clsB 5 ("PolyRegisters$Roots", mj_T5, 12) = true := by decide +kernel
theorem mj_c6 : mj_clsB 6 ("PolyRegisters$Sturm", mj_T6, 6) = true := by decide +kernel
theorem mj_c7 : mj_clsB 7 ("PolyRegisters$Text", mj_T7, 2) = true := by decide +kernel
theorem mj_c8 : mj_clsB 8 ("PolyRegisters$Wide", mj_T8, 3) = true := by decide +kernel
theorem mj_c9 : mj_clsB 9 ("PolyRegisters", mj_T9, 16) = true := by decide +kernel
theorem mj_c10 : mj_clsB 10 ("PolyRegistersModel", mj_T10, 16) = true := by decide +kernel
theorem mj_clsA (ci : Nat) (q : vw_C) (h : mj_cl[ci]? = some q) : mj_clsB ci q = true := by
  match ci, h with
  | 0, h => cases h; exact mj_c0
  | 1, h => cases h; exact mj_c1
  | 2, h => cases h; exact mj_c2
  | 3, h => cases h; exact mj_c3
  | 4, h => cases h; exact mj_c4
  | 5, h => cases h; exact mj_c5
  | 6, h => cases h; exact mj_c6
  | 7, h => cases h; exact mj_c7
  | 8, h => cases h; exact mj_c8
  | 9, h => cases h; exact mj_c9
  | 10, h => cases h; exact mj_c10
  | ci + 11, h => simp [mj_cl] at h
theorem mj_inw_of {w : Jvm.Cond} (h : mj_inw w = true) : w ∈ lw_tbl ∧ mj_mv w = true := by
  unfold mj_inw at h
  rw [Bool.and_eq_true, decide_eq_true_eq] at h
  exact h
theorem mj_cls {ci : Nat} {q : vw_C} (h : mj_cl[ci]? = some q) : (∀ w ∈ u_ws q.1 q.2.1 q.2.2, w ∈ lw_tbl ∧ mj_mv w = true) ∧ (∀ k, k < q.2.2 → parseFieldDescriptor (q.2.1 k).2.2.1 = some (mj_ft ci k)) ∧ (∀ a, a < q.2.2 → ∀ b, b < q.2.2 → a ≠ b → (q.2.1 a).2.1 ≠ (q.2.1 b).2.1) ∧ (Jvm.Cond.instantiable q.1 q.2.2 ∈ lw_tbl ∧ mj_mv (.instantiable q.1 q.2.2) = true) ∧ (Jvm.Cond.initialized q.1 ∈ lw_tbl ∧ mj_mv (.initialized q.1) = true) ∧ q.2.2 = mj_nc ci := by
  have hA := mj_clsA ci q h
  unfold mj_clsB at hA
  simp only [Bool.and_eq_true, List.all_eq_true, List.mem_range, decide_eq_true_eq, Bool.or_eq_true] at hA
  obtain ⟨⟨⟨h1, h2⟩, h3⟩, h4⟩ := hA
  refine ⟨fun w hw => ?_, fun k hk => (h1 k hk).1.2, fun a ha b hb hab => ?_, mj_inw_of h2, mj_inw_of h3, h4⟩
  · obtain ⟨k, hk, rfl⟩ := List.mem_map.mp hw
    exact mj_inw_of (h1 k (List.mem_range.mp hk)).1.1
  · rcases (h1 a ha).2 b hb with e | e
    · exact absurd e hab
    · exact e
theorem mj_overA {args : Array Value} {first s : State} {o : Option Outcome} {idx : List Nat} {t : FieldType} (h : (Jvm.Cond.arrayOver (.array t)).holds args first o s idx = true) :
    ∃ comp c k, s.vm.findClass (FieldType.array t).toString = some comp ∧ (s.vm.classes.findIdx? fun (x : Class) => match x.kind with | .array component _ => component == comp | _ => false) = some c ∧ s.vm.classes[c]? = some k ∧ k.kind = .array comp (.array t) ∧ s.vm.findClass ("[" ++ (FieldType.array t).toString) = some c := by
  simp only [Cond.holds, Cond.value, beq_iff_eq] at h
  cases hc : s.vm.findClass (FieldType.array t).toString with
  | none => simp [hc] at h
  | some comp =>
    simp only [hc, Option.bind_some, Option.bind_eq_some_iff, Option.map_eq_some_iff] at h
    obtain ⟨c, hi, k, hk, hb⟩ := h
    have hi0 := hi
    obtain ⟨hlt, hp, -⟩ := Array.findIdx?_eq_some_iff_getElem.mp hi
    have hkk : s.vm.classes[c] = k := (Array.getElem?_eq_some_iff.mp hk).2
    rw [hkk] at hp
    cases hkind : k.kind with
    | array component ty =>
      rw [hkind] at hb hp
      simp at hb hp
      exact ⟨comp, c, k, rfl, hi0, hk, by rw [hkind, hp, hb.1], hb.2⟩
    | _ => rw [hkind] at hb; simp at hb
theorem mj_overA_moved {A A' : Array Value} {t : FieldType} {u U : State} (hvm : u.vm.Alike U.vm) (h : (Jvm.Cond.arrayOver (.array t)).before A u = true) : (Jvm.Cond.arrayOver (.array t)).before A' U = true := by
  obtain ⟨comp, c, k, h1, h2, h3, h4, h5⟩ := mj_overA h
  obtain ⟨k', hk', he⟩ := hvm.2.2 _ _ h3
  have hi : (U.vm.classes.findIdx? fun (x : Class) => match x.kind with | .array component _ => component == comp | _ => false) = some c := by
    have hb9 : U.vm.bare = u.vm.bare := by first | exact hvm.bare_eq | exact hvm.bare_eq.symm
    refine Eq.trans ((va_idx_bare U.vm comp).symm.trans ?_) h2
    rw [hb9]
    exact va_idx_bare u.vm comp
  have hkind : k'.kind = .array comp (.array t) := by rw [he]; exact h4
  have f1 : U.vm.findClass (FieldType.array t).toString = some comp := by rw [hvm.findClass]; exact h1
  have f2 : U.vm.findClass ("[" ++ (FieldType.array t).toString) = some c := by rw [hvm.findClass]; exact h5
  unfold Cond.before Cond.holds
  simp only [Cond.value]
  rw [f1, Option.bind_some]
  refine (congrArg (fun o : Option Nat => (o.bind (fun c => (U.vm.classes[c]?).map fun (k : Class) => match k.kind with | .array _ ty => decide (ty = FieldType.array t) && decide (U.vm.findClass ("[" ++ (FieldType.array t).toString) = some c) | _ => false) == some true)) hi).trans ?_
  simp [hk', hkind, f2]
theorem mj_move {w : Jvm.Cond} (hm : mj_mv w = true) {a a' : Array Value} {s U : State} (hW : s.WarmedH U.vm) (h : w.before a s = true) : w.before a' U = true := by
  unfold mj_mv at hm
  rw [Bool.or_eq_true] at hm
  rcases hm with hm | hm
  · exact word_at hW (good_of_word hm) h
  · cases w <;> (try exact absurd hm Bool.false_ne_true)
    · exact va_Nw.use rfl (va_Nw.warmM hW (va_Nw.of rfl h))
    · exact va_Nw.use rfl (va_Nw.warmF hW (va_Nw.of rfl h))
    · exact va_Nw.use rfl (va_Nw.warmC hW (va_Nw.of rfl h))
    · rename_i t
      cases t <;> (try exact absurd hm Bool.false_ne_true)
      · exact va_AO.use (va_AO.moved hW.alike (va_AO.of h))
      · exact mj_overA_moved hW.alike h
end
section
/-! What the small machine's state says of the machine's: addresses for places, cells, locals. -/
/-- the address of a place: place 0 is the script's -/
def mj_ad (B b : Nat) (k : Nat) : Nat := match k with
  | 0 => b
  | j + 1 => B + j
def mj_rv (B b : Nat) (v : Value) : Value := match v with
  | .ref k => .ref (mj_ad B b k)
  | v => v
theorem mj_ad_inj {B b : Nat} (hb : b < B) {i j : Nat} (h : mj_ad B b i = mj_ad B b j) : i = j := by
  cases i <;> cases j <;> simp only [mj_ad] at h <;> omega
theorem mj_ad_ge {B b k : Nat} (h : k ≠ 0) : B ≤ mj_ad B b k := by
  cases k with
  | zero => exact absurd rfl h
  | succ j => simp only [mj_ad]; omega
theorem mj_rv_cat (B b : Nat) (v : Value) : (mj_rv B b v).category = v.category := by cases v <;> rfl
theorem mj_rv_idem_int (B b : Nat) (x : Int32) : mj_rv B b (.int x) = .int x := rfl
/-- the listed locals -/
def mj_lv (B b : Nat) (loc : mj_L) : List (Nat × Value) := (List.range loc.length).filterMap fun i => match loc[i]? with
  | some (some v) => some (i, mj_rv B b v)
  | _ => none
def mj_LR (B b : Nat) (loc : mj_L) (ls : Array Slot) (nL : Nat) : Prop := ls.size = nL ∧ loc.length = nL ∧ lv_wf ls ∧ ∀ (i : Nat) (v : Value), loc[i]? = some (some v) → ls[i]? = some (.val (mj_rv B b v))
theorem mj_lv_mem {B b : Nat} {loc : mj_L} {i : Nat} {v : Value} (h : loc[i]? = some (some v)) : (i, mj_rv B b v) ∈ mj_lv B b loc := by
  refine List.mem_filterMap.mpr ⟨i, List.mem_range.mpr (List.getElem?_eq_some_iff.mp h).1, ?_⟩
  simp [h]
theorem mj_lv_of {B b : Nat} {loc : mj_L} {q : Nat × Value} (h : q ∈ mj_lv B b loc) : ∃ v, loc[q.1]? = some (some v) ∧ q.2 = mj_rv B b v := by
  obtain ⟨i, -, hi⟩ := List.mem_filterMap.mp h
  split at hi
  · rename_i v hv
    cases hi
    exact ⟨v, hv, rfl⟩
  · cases hi
theorem mj_LR.has {B b : Nat} {loc : mj_L} {ls : Array Slot} {nL : Nat} (h : mj_LR B b loc ls nL) : lv_has ls nL (mj_lv B b loc) := by
  refine ⟨h.1, h.2.2.1, fun q hq => ?_⟩
  obtain ⟨v, h1, h2⟩ := mj_lv_of hq
  rw [h2]
  exact h.2.2.2 _ _ h1
theorem mj_LR.get {B b : Nat} {loc : mj_L} {ls : Array Slot} {nL : Nat} (h : mj_LR B b loc ls nL) {i : Nat} {v : Value} (hi : loc[i]? = some (some v)) : ls[i]? = some (.val (mj_rv B b v)) := h.2.2.2 i v hi
theorem mj_st1_len (loc : mj_L) (i : Nat) (v : Value) : (mj_st1 loc i v).length = loc.length := by
  unfold mj_st1
  rw [List.length_set]
  split
  · rfl
  · split <;> simp
theorem mj_st1_get {loc : mj_L} {i j : Nat} {v w : Value} (h : (mj_st1 loc i v)[j]? = some (some w)) : (j = i ∧ w = v) ∨ (j ≠ i ∧ loc[j]? = some (some w) ∧ ¬ (j + 1 = i ∧ w.category = 2)) := by
  by_cases hj : j = i
  · subst hj
    refine Or.inl ⟨rfl, ?_⟩
    unfold mj_st1 at h
    have hl := (List.getElem?_eq_some_iff.mp h).1
    rw [List.length_set] at hl
    rw [List.getElem?_set_self hl] at h
    cases h
    rfl
  · refine Or.inr ⟨hj, ?_⟩
    unfold mj_st1 at h
    rw [List.getElem?_set_ne (fun e => hj e.symm)] at h
    cases i with
    | zero => exact ⟨h, fun q => by omega⟩
    | succ k =>
      simp only at h
      by_cases hk : j = k
      · subst hk
        cases hl : loc[j]? with
        | none => rw [hl] at h; simp [hl] at h
        | some o =>
          cases o with
          | none => rw [hl] at h; simp [hl] at h
          | some z =>
            cases z <;> simp only [hl] at h
            all_goals first
              | (rw [List.getElem?_set] at h; simp only [if_true] at h; split at h <;> simp at h; done)
              | (cases h; exact ⟨rfl, fun q => by simp [Value.category] at q⟩)
      · have h2 : loc[j]? = some (some w) := by
          split at h
          · rw [List.getElem?_set_ne (fun e => hk e.symm)] at h; exact h
          · rw [List.getElem?_set_ne (fun e => hk e.symm)] at h; exact h
          · exact h
        exact ⟨h2, fun q => hk (by omega)⟩
theorem mj_LR.st1 {B b : Nat} {loc : mj_L} {ls ls' : Array Slot} {nL i : Nat} {v w : Value} (h : mj_LR B b loc ls nL) (hw : w = mj_rv B b v)
    (h' : lv_has ls' nL ((i, w) :: (mj_lv B b loc).filter (fun q => !(q.1 == i) && !(q.1 + 1 == i && q.2.category == 2)))) : mj_LR B b (mj_st1 loc i v) ls' nL := by
  refine ⟨h'.1, (mj_st1_len loc i v).trans h.2.1, h'.2.1, fun j u hu => ?_⟩
  rcases mj_st1_get hu with ⟨e1, e2⟩ | ⟨e1, e2, e3⟩
  · subst e1; subst e2; subst hw
    exact h'.2.2 (_, _) List.mem_cons_self
  · refine h'.2.2 (j, mj_rv B b u) (List.mem_cons_of_mem _ (List.mem_filter.mpr ⟨mj_lv_mem e2, ?_⟩))
    rw [mj_rv_cat]
    simp only [Bool.and_eq_true, Bool.not_eq_true', beq_eq_false_iff_ne, ne_eq, Bool.and_eq_false_iff]
    refine ⟨e1, ?_⟩
    by_cases hq : j + 1 = i
    · exact Or.inr fun z => e3 ⟨hq, z⟩
    · exact Or.inl hq
theorem mj_st2_get {loc : mj_L} {i j : Nat} {v w : Value} (h : (mj_st2 loc i v)[j]? = some (some w)) : j ≠ i + 1 ∧ (mj_st1 loc i v)[j]? = some (some w) := by
  unfold mj_st2 at h
  by_cases hj : j = i + 1
  · subst hj
    rw [List.getElem?_set] at h
    simp only [if_true] at h
    split at h <;> simp at h
  · rw [List.getElem?_set_ne (fun e => hj e.symm)] at h
    exact ⟨hj, h⟩
theorem mj_LR.st2 {B b : Nat} {loc : mj_L} {ls ls' : Array Slot} {nL i : Nat} {v w : Value} (h : mj_LR B b loc ls nL) (hw : w = mj_rv B b v)
    (h' : lv_has ls' nL ((i, w) :: (mj_lv B b loc).filter (fun q => !(q.1 == i) && (!(q.1 == i + 1) && !(q.1 + 1 == i && q.2.category == 2))))) : mj_LR B b (mj_st2 loc i v) ls' nL := by
  refine ⟨h'.1, ?_, h'.2.1, fun j u hu => ?_⟩
  · unfold mj_st2
    rw [List.length_set]
    exact (mj_st1_len loc i v).trans h.2.1
  obtain ⟨e0, hu⟩ := mj_st2_get hu
  rcases mj_st1_get hu with ⟨e1, e2⟩ | ⟨e1, e2, e3⟩
  · subst e1; subst e2; subst hw
    exact h'.2.2 (_, _) List.mem_cons_self
  · refine h'.2.2 (j, mj_rv B b u) (List.mem_cons_of_mem _ (List.mem_filter.mpr ⟨mj_lv_mem e2, ?_⟩))
    rw [mj_rv_cat]
    simp only [Bool.and_eq_true, Bool.not_eq_true', beq_eq_false_iff_ne, ne_eq, Bool.and_eq_false_iff]
    refine ⟨e1, e0, ?_⟩
    by_cases hq : j + 1 = i
    · exact Or.inr fun z => e3 ⟨hq, z⟩
    · exact Or.inl hq
/-- what a cell of the small machine says of the heap -/
def mj_at (B b : Nat) (D : va_G) (dA : Nat → ClassId) (s : State) (a : Nat) (e : mj_E) (H : Heap) : Prop := match e with
  | .inl (t, n, f) => (t = 100 → ∃ scr : Cell, H[a]? = some scr ∧ s.isArrayOf scr .int ∧ scr.vm ≠ .unknown ∧ scr.slots.size = n ∧ ∀ j : Nat, j < n → scr.slots[j]? = some (mj_rv B b (f j))) ∧ (t ≠ 100 → t ≤ 6 ∧ H[a]? = some (arrV (dA t) n (fun j => mj_rv B b (f j))))
  | .inr (ci, fs) => ci ≠ 99 → ∃ r : vw_C, mj_cl[ci]? = some r ∧ r.2.2 = fs.length ∧ t_OB a (D.1 ci) r.2.2 (D.2 ci) H (vp_V (fs.map (mj_rv B b)))
theorem mj_at.kept {B b : Nat} {D : va_G} {dA : Nat → ClassId} {s : State} {a : Nat} {e : mj_E} {H H1 : Heap} (h : mj_at B b D dA s a e H) (hq : H1[a]? = H[a]?) : mj_at B b D dA s a e H1 := by
  cases e with
  | inl x =>
    obtain ⟨t, n, f⟩ := x
    exact ⟨fun ht => by rw [hq]; exact h.1 ht, fun ht => by rw [hq]; exact h.2 ht⟩
  | inr o =>
    obtain ⟨ci, fs⟩ := o
    intro hc
    obtain ⟨r, h1, h2, h3⟩ := h hc
    exact ⟨r, h1, h2, h3.kept hq⟩
theorem mj_at.moved {B b : Nat} {D : va_G} {dA : Nat → ClassId} {s U : State} {a : Nat} {e : mj_E} {H : Heap} (hvm : s.vm.Alike U.vm) (h : mj_at B b D dA s a e H) : mj_at B b D dA U a e H := by
  cases e with
  | inl x =>
    obtain ⟨t, n, f⟩ := x
    refine ⟨fun ht => ?_, h.2⟩
    obtain ⟨scr, h1, h2, h3⟩ := h.1 ht
    exact ⟨scr, h1, State.isArrayOf_alike hvm h2, h3⟩
  | inr o => exact h
def mj_HR (B b : Nat) (D : va_G) (dA : Nat → ClassId) (s : State) (h : mj_H) (H : Heap) : Prop :=
  H.size + 1 = B + h.length ∧ (∃ (L : Nat) (xs : Nat → Value), h[0]? = some (.inl (100, L, xs))) ∧ ∀ (k : Nat) (e : mj_E), h[k]? = some e → mj_at B b D dA s (mj_ad B b k) e H
theorem mj_HR.moved {B b : Nat} {D : va_G} {dA : Nat → ClassId} {s U : State} {h : mj_H} {H : Heap} (hvm : s.vm.Alike U.vm) (hR : mj_HR B b D dA s h H) : mj_HR B b D dA U h H := ⟨hR.1, hR.2.1, fun k e he => (hR.2.2 k e he).moved hvm⟩
theorem mj_HR.lt {B b : Nat} {D : va_G} {dA : Nat → ClassId} {s : State} {h : mj_H} {H : Heap} (hb : b < B) (hR : mj_HR B b D dA s h H) {k : Nat} {e : mj_E} (he : h[k]? = some e) : mj_ad B b k < H.size := by
  have h1 := hR.1
  have h2 := (List.getElem?_eq_some_iff.mp he).1
  cases k with
  | zero => simp only [mj_ad]; omega
  | succ j => simp only [mj_ad]; omega
/-- a cell is written -/
theorem mj_HR.set {B b : Nat} {D : va_G} {dA : Nat → ClassId} {s : State} {h : mj_H} {H H1 : Heap} (hb : b < B) (hR : mj_HR B b D dA s h H) {k : Nat} (hk : k ≠ 0) {e : mj_E} (he : mj_at B b D dA s (mj_ad B b k) e H1) (hz : H1.size = H.size) (ho : ∀ q, q ≠ mj_ad B b k → H1[q]? = H[q]?) : mj_HR B b D dA s (h.set k e) H1 := by
  refine ⟨by rw [hz, List.length_set]; exact hR.1, ?_, fun j x hx => ?_⟩
  · obtain ⟨L, xs, h0⟩ := hR.2.1
    exact ⟨L, xs, by rw [List.getElem?_set_ne hk]; exact h0⟩
  · by_cases hj : j = k
    · subst hj
      rw [List.getElem?_set] at hx
      simp only [if_true] at hx
      split at hx
      · cases hx; exact he
      · cases hx
    · rw [List.getElem?_set_ne (fun q => hj q.symm)] at hx
      exact (hR.2.2 j x hx).kept (ho _ (fun q => hj (mj_ad_inj hb q)))
/-- a cell is made -/
theorem mj_HR.push {B b : Nat} {D : va_G} {dA : Nat → ClassId} {s : State} {h : mj_H} {H H1 : Heap} (hb : b < B) (hR : mj_HR B b D dA s h H) {e : mj_E} (he : mj_at B b D dA s H.size e H1) (hz : H1.size = H.size + 1) (ho : ∀ q, q < H.size → H1[q]? = H[q]?) : mj_HR B b D dA s (h ++ [e]) H1 ∧ mj_ad B b h.length = H.size := by
  obtain ⟨L, xs, h0⟩ := hR.2.1
  have hl : 0 < h.length := (List.getElem?_eq_some_iff.mp h0).1
  have h1 := hR.1
  have ha : mj_ad B b h.length = H.size := by
    cases hh : h.length with
    | zero => omega
    | succ j => simp only [mj_ad]; omega
  refine ⟨⟨by rw [hz, List.length_append]; simp; omega, ⟨L, xs, by rw [List.getElem?_append_left hl]; exact h0⟩, fun j x hx => ?_⟩, ha⟩
  by_cases hj : j < h.length
  · rw [List.getElem?_append_left hj] at hx
    exact (hR.2.2 j x hx).kept (ho _ (hR.lt hb hx))
  · rw [List.getElem?_append_right (by omega)] at hx
    have hz : j - h.length < 1 := (List.getElem?_eq_some_iff.mp hx).1
    have hj0 : j = h.length := by omega
    subst hj0
    rw [Nat.sub_self] at hx
    cases hx
    rw [ha]
    exact he
def mj_slot (e : mj_E) : Nat := match e with
  | .inl (_, n, _) => n
  | .inr (_, fs) => fs.length
def mj_sl (h : mj_H) : Nat := (h.map mj_slot).sum
theorem mj_sl_set {h : mj_H} {k : Nat} {e e' : mj_E} (he : h[k]? = some e) (hs : mj_slot e' = mj_slot e) : mj_sl (h.set k e') = mj_sl h := by
  induction h generalizing k with
  | nil => simp at he
  | cons x t ih =>
    cases k with
    | zero =>
      simp only [List.getElem?_cons_zero, Option.some.injEq] at he
      subst he
      simp [mj_sl, hs]
    | succ j =>
      simp only [List.getElem?_cons_succ] at he
      have h1 := ih he
      show mj_slot x + mj_sl (t.set j e') = mj_slot x + mj_sl t
      rw [h1]
theorem mj_sl_push (h : mj_H) (e : mj_E) : mj_sl (h ++ [e]) = mj_sl h + mj_slot e := by simp [mj_sl]
/-- the whole of it, within a method that began with n0 cells of s0 slots -/
def mj_Rel (B b : Nat) (D : va_G) (dA : Nat → ClassId) (s : State) (nL n0 s0 : Nat) (loc : mj_L) (h : mj_H) (ls : Array Slot) (H : Heap) (locs : List Loc) (cells slots : Nat) : Prop :=
  mj_HR B b D dA s h H ∧ mj_LR B b loc ls nL ∧ va_S (fun q => B ≤ q) s.heap H locs ∧ n0 + cells = h.length ∧ s0 + slots = mj_sl h
/-- what stays, through a method -/
def mj_Ctx (p : Program) (s : State) (m : MethodId) (args : Array Value) (meth : Method) (c : Code) (y : MethodName) (cc : ByteArray) (nL B b : Nat) (D : va_G) (dA : Nat → ClassId) : Prop :=
  p.tables.exec = Jvm.exec ∧ c.code = cc ∧ c.maxLocals = nL ∧ s.vm.findClass y.cls = some m.cls ∧ (∀ w ∈ lw_tbl, mj_mv w = true → w.before args s = true) ∧ va_K D mj_cl (mj_tys dA) s ∧ B ≤ s.heap.size ∧ b < B ∧ meth.locks = false ∧ (y.name = "<init>" → meth.name = "<init>")
end
section
/-! The steps: what an instruction was resolved to is checked by the kernel ('mj_ok'); then one step of the small machine is one of the machine. -/
def mj_len (ins : Instr) : Nat := match ins with
  | .bipush _ => 2
  | .sipush _ => 3
  | .ldc _ => 2
  | .ldc_w _ => 3
  | .ldc2_w _ => 3
  | .iload _ => 2
  | .lload _ => 2
  | .dload _ => 2
  | .aload _ => 2
  | .istore _ => 2
  | .lstore _ => 2
  | .dstore _ => 2
  | .astore _ => 2
  | .iinc _ _ => 3
  | .goto _ => 3
  | .ifCond _ _ => 3
  | .if_icmp _ _ => 3
  | .getfield _ => 3
  | .putfield _ => 3
  | .new _ => 3
  | .anewarray _ => 3
  | .newarray _ => 2
  | .multianewarray _ _ => 4
  | .invokevirtual _ => 3
  | .invokespecial _ => 3
  | .invokestatic _ => 3
  | _ => 1
def mj_w (r : Nat) (w : Jvm.Cond) : Bool := decide (lw_tbl[r]? = some w) && mj_mv w
theorem mj_w_of {r : Nat} {w : Jvm.Cond} (h : mj_w r w = true) : w ∈ lw_tbl ∧ mj_mv w = true := by
  unfold mj_w at h
  rw [Bool.and_eq_true, decide_eq_true_eq] at h
  exact ⟨List.mem_of_getElem? h.1, h.2⟩
def mj_link (own : String) (i : Nat) (q : vw_C) (k r4 r5 : Nat) : Bool := match r5 with
  | 0 => mj_w r4 (.fieldLink own i (q.2.1 k).1 (q.2.1 k).2.1 (q.2.1 k).2.2.1)
  | _ => mj_w r4 (.fieldLinkNest own i (q.2.1 k).1 (q.2.1 k).2.1 (q.2.1 k).2.2.1 "PolyRegisters")
def mj_okS (y : MethodName) (pc : Nat) (ins : Instr) (r1 r2 r3 r4 r5 : Nat) : Bool := match ins with
  | .goto off => decide ((pc : Int) + off = (r1 : Int))
  | .ifCond _ off => decide ((pc : Int) + off = (r1 : Int))
  | .if_icmp _ off => decide ((pc : Int) + off = (r1 : Int))
  | .bipush n => decide ((Int8.ofInt n).toInt32 = Int32.ofInt n)
  | .sipush n => decide ((Int16.ofInt n).toInt32 = Int32.ofInt n)
  | .ldc i => (match r2 with
    | 0 => mj_w r4 (.constant y.cls i (Int32.ofNat r1))
    | _ => mj_w r4 (.constantFloat y.cls i (UInt32.ofNat r1)))
  | .ldc_w i => (match r2 with
    | 0 => mj_w r4 (.constant y.cls i (Int32.ofNat r1))
    | _ => mj_w r4 (.constantFloat y.cls i (UInt32.ofNat r1)))
  | .ldc2_w i => (match r2 with
    | 0 => mj_w r4 (.constantLong y.cls i (Int64.ofNat r1))
    | _ => mj_w r4 (.constantDouble y.cls i (UInt64.ofNat r1)))
  | .getfield i => (match mj_cl[r1]? with
    | some q => decide (r2 < q.2.2) && mj_link y.cls i q r2 r4 r5
    | none => false)
  | .putfield i => (match mj_cl[r1]? with
    | some q => decide (r2 < q.2.2) && mj_link y.cls i q r2 r4 r5 && decide (mj_kd (mj_ft r1 r2) = r3) && (!(q.2.1 r2).2.2.2 || (decide (y.name = "<init>") && decide ((q.2.1 r2).1 = y.cls) && decide (r5 = 0)))
    | none => false)
  | .new i => (match mj_cl[r1]? with
    | some q => mj_w r4 (.classLink y.cls i q.1)
    | none => false)
  | .newarray t => decide (newarray.typeOf t = mj_tt r1) && mj_w r4 (.arrayClass (mj_tt r1))
  | .anewarray i => (match mj_el r1 with
    | some ci => (match mj_cl[ci]? with
      | some q => mj_w r4 (.classLink y.cls i q.1) && mj_w r5 (.arrayOver (.object q.1)) && decide (mj_tt r1 = .object q.1) && decide (3 ≤ r1) && decide (r1 ≤ 5)
      | none => false)
    | none => false)
  | .multianewarray i d => decide (d = 2) && mj_w r4 (.classLink y.cls i ("[" ++ (FieldType.array .long).toString)) && mj_w r5 (.arrayOver (.array .long)) && mj_w r2 (.arrayClass .long)
  | _ => true
def mj_ok (y : MethodName) (cc : ByteArray) (pc : Nat) (I : mj_I) : Bool := match I with
  | (.tableswitch d lo hi os, r1, _) => decide (decode cc pc = .ok (.tableswitch d lo hi os, r1))
  | (ins, r1, r2, r3, r4, r5) => decide (decode cc pc = .ok (ins, mj_len ins)) && mj_okS y pc ins r1 r2 r3 r4 r5
theorem mj_load1_of {loc : mj_L} {i : Nat} {v : Value} (h : mj_load1 loc i = some v) : ∃ x, v = .int x ∧ loc[i]? = some (some (.int x)) := by
  unfold mj_load1 at h
  split at h
  · rename_i x hx
    cases h
    exact ⟨x, rfl, hx⟩
  · cases h
theorem mj_loadL_of {loc : mj_L} {i : Nat} {v : Value} (h : mj_loadL loc i = some v) : ∃ x, v = .long x ∧ loc[i]? = some (some (.long x)) := by
  unfold mj_loadL at h
  split at h
  · rename_i x hx
    cases h
    exact ⟨x, rfl, hx⟩
  · cases h
theorem mj_loadD_of {loc : mj_L} {i : Nat} {v : Value} (h : mj_loadD loc i = some v) : ∃ x, v = .double x ∧ loc[i]? = some (some (.double x)) := by
  unfold mj_loadD at h
  split at h
  · rename_i x hx
    cases h
    exact ⟨x, rfl, hx⟩
  · cases h
theorem mj_loadA_of {loc : mj_L} {i : Nat} {v : Value} (h : mj_loadA loc i = some v) : ∃ x, v = .ref x ∧ loc[i]? = some (some (.ref x)) := by
  unfold mj_loadA at h
  split at h
  · rename_i x hx
    cases h
    exact ⟨x, rfl, hx⟩
  · cases h
section MJS
variable {p : Program} {l : Launch} {e : Env} {R : Room} {s : State} {m : MethodId} {args : Array Value} {below : List Frame} {meth : Method} {c : Code} {H : Heap} {locs : List Loc} {cells slots : Nat} {Q : State → Prop}
variable {y : MethodName} {cc : ByteArray} {nL B b n0 s0 : Nat} {D : va_G} {dA : Nat → ClassId} {pc : Nat} {loc : mj_L} {st : List Value} {h : mj_H} {ls : Array Slot}
theorem mj_ldcwF {ls : Array Slot} {rest : List Value} (hexec : p.tables.exec = Jvm.exec) (hb : c.code = cc) {own : String} {index : Nat} {v : UInt32} (hown : s.vm.findClass own = some m.cls) (hconst : (Jvm.Cond.constantFloat own index v).before args s = true) (hdg : decode cc pc = .ok (.ldc_w index, 3)) (k : W p l e R s m args below meth c H locs cells slots Q (F0 m (pc + 3) ls (.float v :: rest))) : W p l e R s m args below meth c H locs cells slots Q (F0 m pc ls rest) := by
  intro T hT X
  obtain ⟨t, a, b⟩ := k T hT X
  refine ⟨t, ?_, b⟩
  obtain ⟨k, cf, hk, hcf, hcp⟩ := Cond.constantFloat_spec hown hconst
  obtain ⟨k', hk', he⟩ := X.warmed.alike.2.2 _ _ hk
  jvm_step X.here [hexec, hb, hdg, ldc_w.wp_float (s := T) (f := F0 m pc ls rest) X.here.top hk' (by rw [he]; exact hcf) hcp]
  exact a
theorem mj_Rel.ofL {loc' : mj_L} {ls' : Array Slot} (hr : mj_Rel B b D dA s nL n0 s0 loc h ls H locs cells slots) (hl : mj_LR B b loc' ls' nL) : mj_Rel B b D dA s nL n0 s0 loc' h ls' H locs cells slots := ⟨hr.1, hl, hr.2.2⟩

theorem mj_s_iadd {r1 r2 r3 r4 r5 : Nat} (C : mj_Ctx p s m args meth c y cc nL B b D dA) (hd : decode cc pc = .ok (.iadd, mj_len (.iadd))) (ho : mj_okS y pc (.iadd) r1 r2 r3 r4 r5 = true) {pc' : Nat} {loc' : mj_L} {st' : List Value} {h' : mj_H} (hs : mj_step (.iadd) r1 r2 r3 mj_new pc loc st h = some (pc', loc', st', h')) (hr : mj_Rel B b D dA s nL n0 s0 loc h ls H locs cells slots)
    (hcl : h'.length ≤ n0 + R.cells) (hsl : mj_sl h' ≤ s0 + R.slots)
    (k : ∀ (ls' : Array Slot) (H' : Heap) (locs' : List Loc) (cells' slots' : Nat), mj_Rel B b D dA s nL n0 s0 loc' h' ls' H' locs' cells' slots' → W p l e R s m args below meth c H' locs' cells' slots' Q (F0 m pc' ls' (st'.map (mj_rv B b)))) :
    W p l e R s m args below meth c H locs cells slots Q (F0 m pc ls (st.map (mj_rv B b))) := by
  obtain ⟨hx, hb, hml, hown, hts, hK, hB, hbB, hlk, hin⟩ := C
  simp only [mj_step] at hs
  split at hs
  · cases hs
    exact lv_iadd hx hb hd (k _ _ _ _ _ hr)
  · cases hs
theorem mj_s_isub {r1 r2 r3 r4 r5 : Nat} (C : mj_Ctx p s m args meth c y cc nL B b D dA) (hd : decode cc pc = .ok (.isub, mj_len (.isub))) (ho : mj_okS y pc (.isub) r1 r2 r3 r4 r5 = true) {pc' : Nat} {loc' : mj_L} {st' : List Value} {h' : mj_H} (hs : mj_step (.isub) r1 r2 r3 mj_new pc loc st h = some (pc', loc', st', h')) (hr : mj_Rel B b D dA s nL n0 s0 loc h ls H locs cells slots)
    (hcl : h'.length ≤ n0 + R.cells) (hsl : mj_sl h' ≤ s0 + R.slots)
    (k : ∀ (ls' : Array Slot) (H' : Heap) (locs' : List Loc) (cells' slots' : Nat), mj_Rel B b D dA s nL n0 s0 loc' h' ls' H' locs' cells' slots' → W p l e R s m args below meth c H' locs' cells' slots' Q (F0 m pc' ls' (st'.map (mj_rv B b)))) :
    W p l e R s m args below meth c H locs cells slots Q (F0 m pc ls (st.map (mj_rv B b))) := by
  obtain ⟨hx, hb, hml, hown, hts, hK, hB, hbB, hlk, hin⟩ := C
  simp only [mj_step] at hs
  split at hs
  · cases hs
    exact lv_isub hx hb hd (k _ _ _ _ _ hr)
  · cases hs
theorem mj_s_imul {r1 r2 r3 r4 r5 : Nat} (C : mj_Ctx p s m args meth c y cc nL B b D dA) (hd : decode cc pc = .ok (.imul, mj_len (.imul))) (ho : mj_okS y pc (.imul) r1 r2 r3 r4 r5 = true) {pc' : Nat} {loc' : mj_L} {st' : List Value} {h' : mj_H} (hs : mj_step (.imul) r1 r2 r3 mj_new pc loc st h = some (pc', loc', st', h')) (hr : mj_Rel B b D dA s nL n0 s0 loc h ls H locs cells slots)
    (hcl : h'.length ≤ n0 + R.cells) (hsl : mj_sl h' ≤ s0 + R.slots)
    (k : ∀ (ls' : Array Slot) (H' : Heap) (locs' : List Loc) (cells' slots' : Nat), mj_Rel B b D dA s nL n0 s0 loc' h' ls' H' locs' cells' slots' → W p l e R s m args below meth c H' locs' cells' slots' Q (F0 m pc' ls' (st'.map (mj_rv B b)))) :
    W p l e R s m args below meth c H locs cells slots Q (F0 m pc ls (st.map (mj_rv B b))) := by
  obtain ⟨hx, hb, hml, hown, hts, hK, hB, hbB, hlk, hin⟩ := C
  simp only [mj_step] at hs
  split at hs
  · cases hs
    exact lv_imul hx hb hd (k _ _ _ _ _ hr)
  · cases hs
theorem mj_s_ineg {r1 r2 r3 r4 r5 : Nat} (C : mj_Ctx p s m args meth c y cc nL B b D dA) (hd : decode cc pc = .ok (.ineg, mj_len (.ineg))) (ho : mj_okS y pc (.ineg) r1 r2 r3 r4 r5 = true) {pc' : Nat} {loc' : mj_L} {st' : List Value} {h' : mj_H} (hs : mj_step (.ineg) r1 r2 r3 mj_new pc loc st h = some (pc', loc', st', h')) (hr : mj_Rel B b D dA s nL n0 s0 loc h ls H locs cells slots)
    (hcl : h'.length ≤ n0 + R.cells) (hsl : mj_sl h' ≤ s0 + R.slots)
    (k : ∀ (ls' : Array Slot) (H' : Heap) (locs' : List Loc) (cells' slots' : Nat), mj_Rel B b D dA s nL n0 s0 loc' h' ls' H' locs' cells' slots' → W p l e R s m args below meth c H' locs' cells' slots' Q (F0 m pc' ls' (st'.map (mj_rv B b)))) :
    W p l e R s m args below meth c H locs cells slots Q (F0 m pc ls (st.map (mj_rv B b))) := by
  obtain ⟨hx, hb, hml, hown, hts, hK, hB, hbB, hlk, hin⟩ := C
  simp only [mj_step] at hs
  split at hs
  · cases hs
    exact lv_ineg hx hb hd (k _ _ _ _ _ hr)
  · cases hs
theorem mj_s_iand {r1 r2 r3 r4 r5 : Nat} (C : mj_Ctx p s m args meth c y cc nL B b D dA) (hd : decode cc pc = .ok (.iand, mj_len (.iand))) (ho : mj_okS y pc (.iand) r1 r2 r3 r4 r5 = true) {pc' : Nat} {loc' : mj_L} {st' : List Value} {h' : mj_H} (hs : mj_step (.iand) r1 r2 r3 mj_new pc loc st h = some (pc', loc', st', h')) (hr : mj_Rel B b D dA s nL n0 s0 loc h ls H locs cells slots)
    (hcl : h'.length ≤ n0 + R.cells) (hsl : mj_sl h' ≤ s0 + R.slots)
    (k : ∀ (ls' : Array Slot) (H' : Heap) (locs' : List Loc) (cells' slots' : Nat), mj_Rel B b D dA s nL n0 s0 loc' h' ls' H' locs' cells' slots' → W p l e R s m args below meth c H' locs' cells' slots' Q (F0 m pc' ls' (st'.map (mj_rv B b)))) :
    W p l e R s m args below meth c H locs cells slots Q (F0 m pc ls (st.map (mj_rv B b))) := by
  obtain ⟨hx, hb, hml, hown, hts, hK, hB, hbB, hlk, hin⟩ := C
  simp only [mj_step] at hs
  split at hs
  · cases hs
    exact lv_iand hx hb hd (k _ _ _ _ _ hr)
  · cases hs
theorem mj_s_ishr {r1 r2 r3 r4 r5 : Nat} (C : mj_Ctx p s m args meth c y cc nL B b D dA) (hd : decode cc pc = .ok (.ishr, mj_len (.ishr))) (ho : mj_okS y pc (.ishr) r1 r2 r3 r4 r5 = true) {pc' : Nat} {loc' : mj_L} {st' : List Value} {h' : mj_H} (hs : mj_step (.ishr) r1 r2 r3 mj_new pc loc st h = some (pc', loc', st', h')) (hr : mj_Rel B b D dA s nL n0 s0 loc h ls H locs cells slots)
    (hcl : h'.length ≤ n0 + R.cells) (hsl : mj_sl h' ≤ s0 + R.slots)
    (k : ∀ (ls' : Array Slot) (H' : Heap) (locs' : List Loc) (cells' slots' : Nat), mj_Rel B b D dA s nL n0 s0 loc' h' ls' H' locs' cells' slots' → W p l e R s m args below meth c H' locs' cells' slots' Q (F0 m pc' ls' (st'.map (mj_rv B b)))) :
    W p l e R s m args below meth c H locs cells slots Q (F0 m pc ls (st.map (mj_rv B b))) := by
  obtain ⟨hx, hb, hml, hown, hts, hK, hB, hbB, hlk, hin⟩ := C
  simp only [mj_step] at hs
  split at hs
  · cases hs
    exact lv_ishr hx hb hd (k _ _ _ _ _ hr)
  · cases hs
theorem mj_s_iushr {r1 r2 r3 r4 r5 : Nat} (C : mj_Ctx p s m args meth c y cc nL B b D dA) (hd : decode cc pc = .ok (.iushr, mj_len (.iushr))) (ho : mj_okS y pc (.iushr) r1 r2 r3 r4 r5 = true) {pc' : Nat} {loc' : mj_L} {st' : List Value} {h' : mj_H} (hs : mj_step (.iushr) r1 r2 r3 mj_new pc loc st h = some (pc', loc', st', h')) (hr : mj_Rel B b D dA s nL n0 s0 loc h ls H locs cells slots)
    (hcl : h'.length ≤ n0 + R.cells) (hsl : mj_sl h' ≤ s0 + R.slots)
    (k : ∀ (ls' : Array Slot) (H' : Heap) (locs' : List Loc) (cells' slots' : Nat), mj_Rel B b D dA s nL n0 s0 loc' h' ls' H' locs' cells' slots' → W p l e R s m args below meth c H' locs' cells' slots' Q (F0 m pc' ls' (st'.map (mj_rv B b)))) :
    W p l e R s m args below meth c H locs cells slots Q (F0 m pc ls (st.map (mj_rv B b))) := by
  obtain ⟨hx, hb, hml, hown, hts, hK, hB, hbB, hlk, hin⟩ := C
  simp only [mj_step] at hs
  split at hs
  · cases hs
    exact lv_iushr hx hb hd rfl (k _ _ _ _ _ hr)
  · cases hs
theorem mj_s_ladd {r1 r2 r3 r4 r5 : Nat} (C : mj_Ctx p s m args meth c y cc nL B b D dA) (hd : decode cc pc = .ok (.ladd, mj_len (.ladd))) (ho : mj_okS y pc (.ladd) r1 r2 r3 r4 r5 = true) {pc' : Nat} {loc' : mj_L} {st' : List Value} {h' : mj_H} (hs : mj_step (.ladd) r1 r2 r3 mj_new pc loc st h = some (pc', loc', st', h')) (hr : mj_Rel B b D dA s nL n0 s0 loc h ls H locs cells slots)
    (hcl : h'.length ≤ n0 + R.cells) (hsl : mj_sl h' ≤ s0 + R.slots)
    (k : ∀ (ls' : Array Slot) (H' : Heap) (locs' : List Loc) (cells' slots' : Nat), mj_Rel B b D dA s nL n0 s0 loc' h' ls' H' locs' cells' slots' → W p l e R s m args below meth c H' locs' cells' slots' Q (F0 m pc' ls' (st'.map (mj_rv B b)))) :
    W p l e R s m args below meth c H locs cells slots Q (F0 m pc ls (st.map (mj_rv B b))) := by
  obtain ⟨hx, hb, hml, hown, hts, hK, hB, hbB, hlk, hin⟩ := C
  simp only [mj_step] at hs
  split at hs
  · cases hs
    exact lv_ladd hx hb hd (k _ _ _ _ _ hr)
  · cases hs
theorem mj_s_lsub {r1 r2 r3 r4 r5 : Nat} (C : mj_Ctx p s m args meth c y cc nL B b D dA) (hd : decode cc pc = .ok (.lsub, mj_len (.lsub))) (ho : mj_okS y pc (.lsub) r1 r2 r3 r4 r5 = true) {pc' : Nat} {loc' : mj_L} {st' : List Value} {h' : mj_H} (hs : mj_step (.lsub) r1 r2 r3 mj_new pc loc st h = some (pc', loc', st', h')) (hr : mj_Rel B b D dA s nL n0 s0 loc h ls H locs cells slots)
    (hcl : h'.length ≤ n0 + R.cells) (hsl : mj_sl h' ≤ s0 + R.slots)
    (k : ∀ (ls' : Array Slot) (H' : Heap) (locs' : List Loc) (cells' slots' : Nat), mj_Rel B b D dA s nL n0 s0 loc' h' ls' H' locs' cells' slots' → W p l e R s m args below meth c H' locs' cells' slots' Q (F0 m pc' ls' (st'.map (mj_rv B b)))) :
    W p l e R s m args below meth c H locs cells slots Q (F0 m pc ls (st.map (mj_rv B b))) := by
  obtain ⟨hx, hb, hml, hown, hts, hK, hB, hbB, hlk, hin⟩ := C
  simp only [mj_step] at hs
  split at hs
  · cases hs
    exact lv_lsub hx hb hd (k _ _ _ _ _ hr)
  · cases hs
theorem mj_s_lmul {r1 r2 r3 r4 r5 : Nat} (C : mj_Ctx p s m args meth c y cc nL B b D dA) (hd : decode cc pc = .ok (.lmul, mj_len (.lmul))) (ho : mj_okS y pc (.lmul) r1 r2 r3 r4 r5 = true) {pc' : Nat} {loc' : mj_L} {st' : List Value} {h' : mj_H} (hs : mj_step (.lmul) r1 r2 r3 mj_new pc loc st h = some (pc', loc', st', h')) (hr : mj_Rel B b D dA s nL n0 s0 loc h ls H locs cells slots)
    (hcl : h'.length ≤ n0 + R.cells) (hsl : mj_sl h' ≤ s0 + R.slots)
    (k : ∀ (ls' : Array Slot) (H' : Heap) (locs' : List Loc) (cells' slots' : Nat), mj_Rel B b D dA s nL n0 s0 loc' h' ls' H' locs' cells' slots' → W p l e R s m args below meth c H' locs' cells' slots' Q (F0 m pc' ls' (st'.map (mj_rv B b)))) :
    W p l e R s m args below meth c H locs cells slots Q (F0 m pc ls (st.map (mj_rv B b))) := by
  obtain ⟨hx, hb, hml, hown, hts, hK, hB, hbB, hlk, hin⟩ := C
  simp only [mj_step] at hs
  split at hs
  · cases hs
    exact lv_lmul hx hb hd (k _ _ _ _ _ hr)
  · cases hs
theorem mj_s_lneg {r1 r2 r3 r4 r5 : Nat} (C : mj_Ctx p s m args meth c y cc nL B b D dA) (hd : decode cc pc = .ok (.lneg, mj_len (.lneg))) (ho : mj_okS y pc (.lneg) r1 r2 r3 r4 r5 = true) {pc' : Nat} {loc' : mj_L} {st' : List Value} {h' : mj_H} (hs : mj_step (.lneg) r1 r2 r3 mj_new pc loc st h = some (pc', loc', st', h')) (hr : mj_Rel B b D dA s nL n0 s0 loc h ls H locs cells slots)
    (hcl : h'.length ≤ n0 + R.cells) (hsl : mj_sl h' ≤ s0 + R.slots)
    (k : ∀ (ls' : Array Slot) (H' : Heap) (locs' : List Loc) (cells' slots' : Nat), mj_Rel B b D dA s nL n0 s0 loc' h' ls' H' locs' cells' slots' → W p l e R s m args below meth c H' locs' cells' slots' Q (F0 m pc' ls' (st'.map (mj_rv B b)))) :
    W p l e R s m args below meth c H locs cells slots Q (F0 m pc ls (st.map (mj_rv B b))) := by
  obtain ⟨hx, hb, hml, hown, hts, hK, hB, hbB, hlk, hin⟩ := C
  simp only [mj_step] at hs
  split at hs
  · cases hs
    exact lv_lneg hx hb hd (k _ _ _ _ _ hr)
  · cases hs
theorem mj_s_land {r1 r2 r3 r4 r5 : Nat} (C : mj_Ctx p s m args meth c y cc nL B b D dA) (hd : decode cc pc = .ok (.land, mj_len (.land))) (ho : mj_okS y pc (.land) r1 r2 r3 r4 r5 = true) {pc' : Nat} {loc' : mj_L} {st' : List Value} {h' : mj_H} (hs : mj_step (.land) r1 r2 r3 mj_new pc loc st h = some (pc', loc', st', h')) (hr : mj_Rel B b D dA s nL n0 s0 loc h ls H locs cells slots)
    (hcl : h'.length ≤ n0 + R.cells) (hsl : mj_sl h' ≤ s0 + R.slots)
    (k : ∀ (ls' : Array Slot) (H' : Heap) (locs' : List Loc) (cells' slots' : Nat), mj_Rel B b D dA s nL n0 s0 loc' h' ls' H' locs' cells' slots' → W p l e R s m args below meth c H' locs' cells' slots' Q (F0 m pc' ls' (st'.map (mj_rv B b)))) :
    W p l e R s m args below meth c H locs cells slots Q (F0 m pc ls (st.map (mj_rv B b))) := by
  obtain ⟨hx, hb, hml, hown, hts, hK, hB, hbB, hlk, hin⟩ := C
  simp only [mj_step] at hs
  split at hs
  · cases hs
    exact lv_land hx hb hd (k _ _ _ _ _ hr)
  · cases hs
theorem mj_s_lor {r1 r2 r3 r4 r5 : Nat} (C : mj_Ctx p s m args meth c y cc nL B b D dA) (hd : decode cc pc = .ok (.lor, mj_len (.lor))) (ho : mj_okS y pc (.lor) r1 r2 r3 r4 r5 = true) {pc' : Nat} {loc' : mj_L} {st' : List Value} {h' : mj_H} (hs : mj_step (.lor) r1 r2 r3 mj_new pc loc st h = some (pc', loc', st', h')) (hr : mj_Rel B b D dA s nL n0 s0 loc h ls H locs cells slots)
    (hcl : h'.length ≤ n0 + R.cells) (hsl : mj_sl h' ≤ s0 + R.slots)
    (k : ∀ (ls' : Array Slot) (H' : Heap) (locs' : List Loc) (cells' slots' : Nat), mj_Rel B b D dA s nL n0 s0 loc' h' ls' H' locs' cells' slots' → W p l e R s m args below meth c H' locs' cells' slots' Q (F0 m pc' ls' (st'.map (mj_rv B b)))) :
    W p l e R s m args below meth c H locs cells slots Q (F0 m pc ls (st.map (mj_rv B b))) := by
  obtain ⟨hx, hb, hml, hown, hts, hK, hB, hbB, hlk, hin⟩ := C
  simp only [mj_step] at hs
  split at hs
  · cases hs
    exact lv_lor hx hb hd (k _ _ _ _ _ hr)
  · cases hs
theorem mj_s_lshl {r1 r2 r3 r4 r5 : Nat} (C : mj_Ctx p s m args meth c y cc nL B b D dA) (hd : decode cc pc = .ok (.lshl, mj_len (.lshl))) (ho : mj_okS y pc (.lshl) r1 r2 r3 r4 r5 = true) {pc' : Nat} {loc' : mj_L} {st' : List Value} {h' : mj_H} (hs : mj_step (.lshl) r1 r2 r3 mj_new pc loc st h = some (pc', loc', st', h')) (hr : mj_Rel B b D dA s nL n0 s0 loc h ls H locs cells slots)
    (hcl : h'.length ≤ n0 + R.cells) (hsl : mj_sl h' ≤ s0 + R.slots)
    (k : ∀ (ls' : Array Slot) (H' : Heap) (locs' : List Loc) (cells' slots' : Nat), mj_Rel B b D dA s nL n0 s0 loc' h' ls' H' locs' cells' slots' → W p l e R s m args below meth c H' locs' cells' slots' Q (F0 m pc' ls' (st'.map (mj_rv B b)))) :
    W p l e R s m args below meth c H locs cells slots Q (F0 m pc ls (st.map (mj_rv B b))) := by
  obtain ⟨hx, hb, hml, hown, hts, hK, hB, hbB, hlk, hin⟩ := C
  simp only [mj_step] at hs
  split at hs
  · cases hs
    exact lv_lshl hx hb hd rfl (k _ _ _ _ _ hr)
  · cases hs
theorem mj_s_lcmp {r1 r2 r3 r4 r5 : Nat} (C : mj_Ctx p s m args meth c y cc nL B b D dA) (hd : decode cc pc = .ok (.lcmp, mj_len (.lcmp))) (ho : mj_okS y pc (.lcmp) r1 r2 r3 r4 r5 = true) {pc' : Nat} {loc' : mj_L} {st' : List Value} {h' : mj_H} (hs : mj_step (.lcmp) r1 r2 r3 mj_new pc loc st h = some (pc', loc', st', h')) (hr : mj_Rel B b D dA s nL n0 s0 loc h ls H locs cells slots)
    (hcl : h'.length ≤ n0 + R.cells) (hsl : mj_sl h' ≤ s0 + R.slots)
    (k : ∀ (ls' : Array Slot) (H' : Heap) (locs' : List Loc) (cells' slots' : Nat), mj_Rel B b D dA s nL n0 s0 loc' h' ls' H' locs' cells' slots' → W p l e R s m args below meth c H' locs' cells' slots' Q (F0 m pc' ls' (st'.map (mj_rv B b)))) :
    W p l e R s m args below meth c H locs cells slots Q (F0 m pc ls (st.map (mj_rv B b))) := by
  obtain ⟨hx, hb, hml, hown, hts, hK, hB, hbB, hlk, hin⟩ := C
  simp only [mj_step] at hs
  split at hs
  · cases hs
    exact W.lcmp hx hb hd (k _ _ _ _ _ hr)
  · cases hs
theorem mj_s_i2l {r1 r2 r3 r4 r5 : Nat} (C : mj_Ctx p s m args meth c y cc nL B b D dA) (hd : decode cc pc = .ok (.i2l, mj_len (.i2l))) (ho : mj_okS y pc (.i2l) r1 r2 r3 r4 r5 = true) {pc' : Nat} {loc' : mj_L} {st' : List Value} {h' : mj_H} (hs : mj_step (.i2l) r1 r2 r3 mj_new pc loc st h = some (pc', loc', st', h')) (hr : mj_Rel B b D dA s nL n0 s0 loc h ls H locs cells slots)
    (hcl : h'.length ≤ n0 + R.cells) (hsl : mj_sl h' ≤ s0 + R.slots)
    (k : ∀ (ls' : Array Slot) (H' : Heap) (locs' : List Loc) (cells' slots' : Nat), mj_Rel B b D dA s nL n0 s0 loc' h' ls' H' locs' cells' slots' → W p l e R s m args below meth c H' locs' cells' slots' Q (F0 m pc' ls' (st'.map (mj_rv B b)))) :
    W p l e R s m args below meth c H locs cells slots Q (F0 m pc ls (st.map (mj_rv B b))) := by
  obtain ⟨hx, hb, hml, hown, hts, hK, hB, hbB, hlk, hin⟩ := C
  simp only [mj_step] at hs
  split at hs
  · cases hs
    exact lv_i2l hx hb hd rfl (k _ _ _ _ _ hr)
  · cases hs
theorem mj_s_l2i {r1 r2 r3 r4 r5 : Nat} (C : mj_Ctx p s m args meth c y cc nL B b D dA) (hd : decode cc pc = .ok (.l2i, mj_len (.l2i))) (ho : mj_okS y pc (.l2i) r1 r2 r3 r4 r5 = true) {pc' : Nat} {loc' : mj_L} {st' : List Value} {h' : mj_H} (hs : mj_step (.l2i) r1 r2 r3 mj_new pc loc st h = some (pc', loc', st', h')) (hr : mj_Rel B b D dA s nL n0 s0 loc h ls H locs cells slots)
    (hcl : h'.length ≤ n0 + R.cells) (hsl : mj_sl h' ≤ s0 + R.slots)
    (k : ∀ (ls' : Array Slot) (H' : Heap) (locs' : List Loc) (cells' slots' : Nat), mj_Rel B b D dA s nL n0 s0 loc' h' ls' H' locs' cells' slots' → W p l e R s m args below meth c H' locs' cells' slots' Q (F0 m pc' ls' (st'.map (mj_rv B b)))) :
    W p l e R s m args below meth c H locs cells slots Q (F0 m pc ls (st.map (mj_rv B b))) := by
  obtain ⟨hx, hb, hml, hown, hts, hK, hB, hbB, hlk, hin⟩ := C
  simp only [mj_step] at hs
  split at hs
  · cases hs
    exact lv_l2i hx hb hd rfl (k _ _ _ _ _ hr)
  · cases hs
theorem mj_s_i2b {r1 r2 r3 r4 r5 : Nat} (C : mj_Ctx p s m args meth c y cc nL B b D dA) (hd : decode cc pc = .ok (.i2b, mj_len (.i2b))) (ho : mj_okS y pc (.i2b) r1 r2 r3 r4 r5 = true) {pc' : Nat} {loc' : mj_L} {st' : List Value} {h' : mj_H} (hs : mj_step (.i2b) r1 r2 r3 mj_new pc loc st h = some (pc', loc', st', h')) (hr : mj_Rel B b D dA s nL n0 s0 loc h ls H locs cells slots)
    (hcl : h'.length ≤ n0 + R.cells) (hsl : mj_sl h' ≤ s0 + R.slots)
    (k : ∀ (ls' : Array Slot) (H' : Heap) (locs' : List Loc) (cells' slots' : Nat), mj_Rel B b D dA s nL n0 s0 loc' h' ls' H' locs' cells' slots' → W p l e R s m args below meth c H' locs' cells' slots' Q (F0 m pc' ls' (st'.map (mj_rv B b)))) :
    W p l e R s m args below meth c H locs cells slots Q (F0 m pc ls (st.map (mj_rv B b))) := by
  obtain ⟨hx, hb, hml, hown, hts, hK, hB, hbB, hlk, hin⟩ := C
  simp only [mj_step] at hs
  split at hs
  · cases hs
    exact lv_i2b hx hb hd rfl (k _ _ _ _ _ hr)
  · cases hs
theorem mj_s_i2f {r1 r2 r3 r4 r5 : Nat} (C : mj_Ctx p s m args meth c y cc nL B b D dA) (hd : decode cc pc = .ok (.i2f, mj_len (.i2f))) (ho : mj_okS y pc (.i2f) r1 r2 r3 r4 r5 = true) {pc' : Nat} {loc' : mj_L} {st' : List Value} {h' : mj_H} (hs : mj_step (.i2f) r1 r2 r3 mj_new pc loc st h = some (pc', loc', st', h')) (hr : mj_Rel B b D dA s nL n0 s0 loc h ls H locs cells slots)
    (hcl : h'.length ≤ n0 + R.cells) (hsl : mj_sl h' ≤ s0 + R.slots)
    (k : ∀ (ls' : Array Slot) (H' : Heap) (locs' : List Loc) (cells' slots' : Nat), mj_Rel B b D dA s nL n0 s0 loc' h' ls' H' locs' cells' slots' → W p l e R s m args below meth c H' locs' cells' slots' Q (F0 m pc' ls' (st'.map (mj_rv B b)))) :
    W p l e R s m args below meth c H locs cells slots Q (F0 m pc ls (st.map (mj_rv B b))) := by
  obtain ⟨hx, hb, hml, hown, hts, hK, hB, hbB, hlk, hin⟩ := C
  simp only [mj_step] at hs
  split at hs
  · cases hs
    exact lv_i2f hx hb hd (k _ _ _ _ _ hr)
  · cases hs
theorem mj_s_i2d {r1 r2 r3 r4 r5 : Nat} (C : mj_Ctx p s m args meth c y cc nL B b D dA) (hd : decode cc pc = .ok (.i2d, mj_len (.i2d))) (ho : mj_okS y pc (.i2d) r1 r2 r3 r4 r5 = true) {pc' : Nat} {loc' : mj_L} {st' : List Value} {h' : mj_H} (hs : mj_step (.i2d) r1 r2 r3 mj_new pc loc st h = some (pc', loc', st', h')) (hr : mj_Rel B b D dA s nL n0 s0 loc h ls H locs cells slots)
    (hcl : h'.length ≤ n0 + R.cells) (hsl : mj_sl h' ≤ s0 + R.slots)
    (k : ∀ (ls' : Array Slot) (H' : Heap) (locs' : List Loc) (cells' slots' : Nat), mj_Rel B b D dA s nL n0 s0 loc' h' ls' H' locs' cells' slots' → W p l e R s m args below meth c H' locs' cells' slots' Q (F0 m pc' ls' (st'.map (mj_rv B b)))) :
    W p l e R s m args below meth c H locs cells slots Q (F0 m pc ls (st.map (mj_rv B b))) := by
  obtain ⟨hx, hb, hml, hown, hts, hK, hB, hbB, hlk, hin⟩ := C
  simp only [mj_step] at hs
  split at hs
  · cases hs
    exact lv_i2d hx hb hd (k _ _ _ _ _ hr)
  · cases hs
theorem mj_s_dcmp {r1 r2 r3 r4 r5 : Nat} {op : CmpOp} (C : mj_Ctx p s m args meth c y cc nL B b D dA) (hd : decode cc pc = .ok (.dcmp op, mj_len (.dcmp op))) (ho : mj_okS y pc (.dcmp op) r1 r2 r3 r4 r5 = true) {pc' : Nat} {loc' : mj_L} {st' : List Value} {h' : mj_H} (hs : mj_step (.dcmp op) r1 r2 r3 mj_new pc loc st h = some (pc', loc', st', h')) (hr : mj_Rel B b D dA s nL n0 s0 loc h ls H locs cells slots)
    (hcl : h'.length ≤ n0 + R.cells) (hsl : mj_sl h' ≤ s0 + R.slots)
    (k : ∀ (ls' : Array Slot) (H' : Heap) (locs' : List Loc) (cells' slots' : Nat), mj_Rel B b D dA s nL n0 s0 loc' h' ls' H' locs' cells' slots' → W p l e R s m args below meth c H' locs' cells' slots' Q (F0 m pc' ls' (st'.map (mj_rv B b)))) :
    W p l e R s m args below meth c H locs cells slots Q (F0 m pc ls (st.map (mj_rv B b))) := by
  obtain ⟨hx, hb, hml, hown, hts, hK, hB, hbB, hlk, hin⟩ := C
  simp only [mj_step] at hs
  split at hs
  · cases hs
    exact lv_dcmp hx hb hd (k _ _ _ _ _ hr)
  · cases hs
theorem mj_s_idiv {r1 r2 r3 r4 r5 : Nat} (C : mj_Ctx p s m args meth c y cc nL B b D dA) (hd : decode cc pc = .ok (.idiv, mj_len (.idiv))) (ho : mj_okS y pc (.idiv) r1 r2 r3 r4 r5 = true) {pc' : Nat} {loc' : mj_L} {st' : List Value} {h' : mj_H} (hs : mj_step (.idiv) r1 r2 r3 mj_new pc loc st h = some (pc', loc', st', h')) (hr : mj_Rel B b D dA s nL n0 s0 loc h ls H locs cells slots)
    (hcl : h'.length ≤ n0 + R.cells) (hsl : mj_sl h' ≤ s0 + R.slots)
    (k : ∀ (ls' : Array Slot) (H' : Heap) (locs' : List Loc) (cells' slots' : Nat), mj_Rel B b D dA s nL n0 s0 loc' h' ls' H' locs' cells' slots' → W p l e R s m args below meth c H' locs' cells' slots' Q (F0 m pc' ls' (st'.map (mj_rv B b)))) :
    W p l e R s m args below meth c H locs cells slots Q (F0 m pc ls (st.map (mj_rv B b))) := by
  obtain ⟨hx, hb, hml, hown, hts, hK, hB, hbB, hlk, hin⟩ := C
  simp only [mj_step] at hs
  split at hs
  · split at hs
    · cases hs
    · rename_i h0
      cases hs
      exact lv_idiv hx hb hd h0 (k _ _ _ _ _ hr)
  · cases hs
theorem mj_s_irem {r1 r2 r3 r4 r5 : Nat} (C : mj_Ctx p s m args meth c y cc nL B b D dA) (hd : decode cc pc = .ok (.irem, mj_len (.irem))) (ho : mj_okS y pc (.irem) r1 r2 r3 r4 r5 = true) {pc' : Nat} {loc' : mj_L} {st' : List Value} {h' : mj_H} (hs : mj_step (.irem) r1 r2 r3 mj_new pc loc st h = some (pc', loc', st', h')) (hr : mj_Rel B b D dA s nL n0 s0 loc h ls H locs cells slots)
    (hcl : h'.length ≤ n0 + R.cells) (hsl : mj_sl h' ≤ s0 + R.slots)
    (k : ∀ (ls' : Array Slot) (H' : Heap) (locs' : List Loc) (cells' slots' : Nat), mj_Rel B b D dA s nL n0 s0 loc' h' ls' H' locs' cells' slots' → W p l e R s m args below meth c H' locs' cells' slots' Q (F0 m pc' ls' (st'.map (mj_rv B b)))) :
    W p l e R s m args below meth c H locs cells slots Q (F0 m pc ls (st.map (mj_rv B b))) := by
  obtain ⟨hx, hb, hml, hown, hts, hK, hB, hbB, hlk, hin⟩ := C
  simp only [mj_step] at hs
  split at hs
  · split at hs
    · cases hs
    · rename_i h0
      cases hs
      exact lv_irem hx hb hd h0 (k _ _ _ _ _ hr)
  · cases hs
theorem mj_s_ldiv {r1 r2 r3 r4 r5 : Nat} (C : mj_Ctx p s m args meth c y cc nL B b D dA) (hd : decode cc pc = .ok (.ldiv, mj_len (.ldiv))) (ho : mj_okS y pc (.ldiv) r1 r2 r3 r4 r5 = true) {pc' : Nat} {loc' : mj_L} {st' : List Value} {h' : mj_H} (hs : mj_step (.ldiv) r1 r2 r3 mj_new pc loc st h = some (pc', loc', st', h')) (hr : mj_Rel B b D dA s nL n0 s0 loc h ls H locs cells slots)
    (hcl : h'.length ≤ n0 + R.cells) (hsl : mj_sl h' ≤ s0 + R.slots)
    (k : ∀ (ls' : Array Slot) (H' : Heap) (locs' : List Loc) (cells' slots' : Nat), mj_Rel B b D dA s nL n0 s0 loc' h' ls' H' locs' cells' slots' → W p l e R s m args below meth c H' locs' cells' slots' Q (F0 m pc' ls' (st'.map (mj_rv B b)))) :
    W p l e R s m args below meth c H locs cells slots Q (F0 m pc ls (st.map (mj_rv B b))) := by
  obtain ⟨hx, hb, hml, hown, hts, hK, hB, hbB, hlk, hin⟩ := C
  simp only [mj_step] at hs
  split at hs
  · split at hs
    · cases hs
    · rename_i h0
      cases hs
      exact lv_ldiv hx hb hd h0 (k _ _ _ _ _ hr)
  · cases hs
theorem mj_s_lrem {r1 r2 r3 r4 r5 : Nat} (C : mj_Ctx p s m args meth c y cc nL B b D dA) (hd : decode cc pc = .ok (.lrem, mj_len (.lrem))) (ho : mj_okS y pc (.lrem) r1 r2 r3 r4 r5 = true) {pc' : Nat} {loc' : mj_L} {st' : List Value} {h' : mj_H} (hs : mj_step (.lrem) r1 r2 r3 mj_new pc loc st h = some (pc', loc', st', h')) (hr : mj_Rel B b D dA s nL n0 s0 loc h ls H locs cells slots)
    (hcl : h'.length ≤ n0 + R.cells) (hsl : mj_sl h' ≤ s0 + R.slots)
    (k : ∀ (ls' : Array Slot) (H' : Heap) (locs' : List Loc) (cells' slots' : Nat), mj_Rel B b D dA s nL n0 s0 loc' h' ls' H' locs' cells' slots' → W p l e R s m args below meth c H' locs' cells' slots' Q (F0 m pc' ls' (st'.map (mj_rv B b)))) :
    W p l e R s m args below meth c H locs cells slots Q (F0 m pc ls (st.map (mj_rv B b))) := by
  obtain ⟨hx, hb, hml, hown, hts, hK, hB, hbB, hlk, hin⟩ := C
  simp only [mj_step] at hs
  split at hs
  · split at hs
    · cases hs
    · rename_i h0
      cases hs
      exact lv_lrem hx hb hd h0 (k _ _ _ _ _ hr)
  · cases hs
theorem mj_s_fdiv {r1 r2 r3 r4 r5 : Nat} (C : mj_Ctx p s m args meth c y cc nL B b D dA) (hd : decode cc pc = .ok (.fdiv, mj_len (.fdiv))) (ho : mj_okS y pc (.fdiv) r1 r2 r3 r4 r5 = true) {pc' : Nat} {loc' : mj_L} {st' : List Value} {h' : mj_H} (hs : mj_step (.fdiv) r1 r2 r3 mj_new pc loc st h = some (pc', loc', st', h')) (hr : mj_Rel B b D dA s nL n0 s0 loc h ls H locs cells slots)
    (hcl : h'.length ≤ n0 + R.cells) (hsl : mj_sl h' ≤ s0 + R.slots)
    (k : ∀ (ls' : Array Slot) (H' : Heap) (locs' : List Loc) (cells' slots' : Nat), mj_Rel B b D dA s nL n0 s0 loc' h' ls' H' locs' cells' slots' → W p l e R s m args below meth c H' locs' cells' slots' Q (F0 m pc' ls' (st'.map (mj_rv B b)))) :
    W p l e R s m args below meth c H locs cells slots Q (F0 m pc ls (st.map (mj_rv B b))) := by
  obtain ⟨hx, hb, hml, hown, hts, hK, hB, hbB, hlk, hin⟩ := C
  simp only [mj_step] at hs
  split at hs
  · split at hs
    · rename_i h0
      cases hs
      exact lv_fdiv hx hb hd h0 (k _ _ _ _ _ hr)
    · cases hs
  · cases hs
theorem mj_s_ddiv {r1 r2 r3 r4 r5 : Nat} (C : mj_Ctx p s m args meth c y cc nL B b D dA) (hd : decode cc pc = .ok (.ddiv, mj_len (.ddiv))) (ho : mj_okS y pc (.ddiv) r1 r2 r3 r4 r5 = true) {pc' : Nat} {loc' : mj_L} {st' : List Value} {h' : mj_H} (hs : mj_step (.ddiv) r1 r2 r3 mj_new pc loc st h = some (pc', loc', st', h')) (hr : mj_Rel B b D dA s nL n0 s0 loc h ls H locs cells slots)
    (hcl : h'.length ≤ n0 + R.cells) (hsl : mj_sl h' ≤ s0 + R.slots)
    (k : ∀ (ls' : Array Slot) (H' : Heap) (locs' : List Loc) (cells' slots' : Nat), mj_Rel B b D dA s nL n0 s0 loc' h' ls' H' locs' cells' slots' → W p l e R s m args below meth c H' locs' cells' slots' Q (F0 m pc' ls' (st'.map (mj_rv B b)))) :
    W p l e R s m args below meth c H locs cells slots Q (F0 m pc ls (st.map (mj_rv B b))) := by
  obtain ⟨hx, hb, hml, hown, hts, hK, hB, hbB, hlk, hin⟩ := C
  simp only [mj_step] at hs
  split at hs
  · split at hs
    · rename_i h0
      cases hs
      exact lv_ddiv hx hb hd h0 (k _ _ _ _ _ hr)
    · cases hs
  · cases hs
theorem mj_s_f2d {r1 r2 r3 r4 r5 : Nat} (C : mj_Ctx p s m args meth c y cc nL B b D dA) (hd : decode cc pc = .ok (.f2d, mj_len (.f2d))) (ho : mj_okS y pc (.f2d) r1 r2 r3 r4 r5 = true) {pc' : Nat} {loc' : mj_L} {st' : List Value} {h' : mj_H} (hs : mj_step (.f2d) r1 r2 r3 mj_new pc loc st h = some (pc', loc', st', h')) (hr : mj_Rel B b D dA s nL n0 s0 loc h ls H locs cells slots)
    (hcl : h'.length ≤ n0 + R.cells) (hsl : mj_sl h' ≤ s0 + R.slots)
    (k : ∀ (ls' : Array Slot) (H' : Heap) (locs' : List Loc) (cells' slots' : Nat), mj_Rel B b D dA s nL n0 s0 loc' h' ls' H' locs' cells' slots' → W p l e R s m args below meth c H' locs' cells' slots' Q (F0 m pc' ls' (st'.map (mj_rv B b)))) :
    W p l e R s m args below meth c H locs cells slots Q (F0 m pc ls (st.map (mj_rv B b))) := by
  obtain ⟨hx, hb, hml, hown, hts, hK, hB, hbB, hlk, hin⟩ := C
  simp only [mj_step] at hs
  split at hs
  · split at hs
    · rename_i h0
      cases hs
      exact lv_f2d hx hb hd h0 (k _ _ _ _ _ hr)
    · cases hs
  · cases hs
theorem mj_s_iconst {r1 r2 r3 r4 r5 : Nat} {n : Int} (C : mj_Ctx p s m args meth c y cc nL B b D dA) (hd : decode cc pc = .ok (.iconst n, mj_len (.iconst n))) (ho : mj_okS y pc (.iconst n) r1 r2 r3 r4 r5 = true) {pc' : Nat} {loc' : mj_L} {st' : List Value} {h' : mj_H} (hs : mj_step (.iconst n) r1 r2 r3 mj_new pc loc st h = some (pc', loc', st', h')) (hr : mj_Rel B b D dA s nL n0 s0 loc h ls H locs cells slots)
    (hcl : h'.length ≤ n0 + R.cells) (hsl : mj_sl h' ≤ s0 + R.slots)
    (k : ∀ (ls' : Array Slot) (H' : Heap) (locs' : List Loc) (cells' slots' : Nat), mj_Rel B b D dA s nL n0 s0 loc' h' ls' H' locs' cells' slots' → W p l e R s m args below meth c H' locs' cells' slots' Q (F0 m pc' ls' (st'.map (mj_rv B b)))) :
    W p l e R s m args below meth c H locs cells slots Q (F0 m pc ls (st.map (mj_rv B b))) := by
  obtain ⟨hx, hb, hml, hown, hts, hK, hB, hbB, hlk, hin⟩ := C
  simp only [mj_step] at hs
  cases hs
  exact lv_iconst hx hb hd rfl (k _ _ _ _ _ hr)
theorem mj_s_lconst {r1 r2 r3 r4 r5 : Nat} {n : Fin 2} (C : mj_Ctx p s m args meth c y cc nL B b D dA) (hd : decode cc pc = .ok (.lconst n, mj_len (.lconst n))) (ho : mj_okS y pc (.lconst n) r1 r2 r3 r4 r5 = true) {pc' : Nat} {loc' : mj_L} {st' : List Value} {h' : mj_H} (hs : mj_step (.lconst n) r1 r2 r3 mj_new pc loc st h = some (pc', loc', st', h')) (hr : mj_Rel B b D dA s nL n0 s0 loc h ls H locs cells slots)
    (hcl : h'.length ≤ n0 + R.cells) (hsl : mj_sl h' ≤ s0 + R.slots)
    (k : ∀ (ls' : Array Slot) (H' : Heap) (locs' : List Loc) (cells' slots' : Nat), mj_Rel B b D dA s nL n0 s0 loc' h' ls' H' locs' cells' slots' → W p l e R s m args below meth c H' locs' cells' slots' Q (F0 m pc' ls' (st'.map (mj_rv B b)))) :
    W p l e R s m args below meth c H locs cells slots Q (F0 m pc ls (st.map (mj_rv B b))) := by
  obtain ⟨hx, hb, hml, hown, hts, hK, hB, hbB, hlk, hin⟩ := C
  simp only [mj_step] at hs
  cases hs
  exact lv_lconst hx hb hd rfl (k _ _ _ _ _ hr)
theorem mj_s_bipush {r1 r2 r3 r4 r5 : Nat} {n : Int} (C : mj_Ctx p s m args meth c y cc nL B b D dA) (hd : decode cc pc = .ok (.bipush n, mj_len (.bipush n))) (ho : mj_okS y pc (.bipush n) r1 r2 r3 r4 r5 = true) {pc' : Nat} {loc' : mj_L} {st' : List Value} {h' : mj_H} (hs : mj_step (.bipush n) r1 r2 r3 mj_new pc loc st h = some (pc', loc', st', h')) (hr : mj_Rel B b D dA s nL n0 s0 loc h ls H locs cells slots)
    (hcl : h'.length ≤ n0 + R.cells) (hsl : mj_sl h' ≤ s0 + R.slots)
    (k : ∀ (ls' : Array Slot) (H' : Heap) (locs' : List Loc) (cells' slots' : Nat), mj_Rel B b D dA s nL n0 s0 loc' h' ls' H' locs' cells' slots' → W p l e R s m args below meth c H' locs' cells' slots' Q (F0 m pc' ls' (st'.map (mj_rv B b)))) :
    W p l e R s m args below meth c H locs cells slots Q (F0 m pc ls (st.map (mj_rv B b))) := by
  obtain ⟨hx, hb, hml, hown, hts, hK, hB, hbB, hlk, hin⟩ := C
  simp only [mj_step] at hs
  cases hs
  exact lv_bipush hx hb hd (of_decide_eq_true ho) (k _ _ _ _ _ hr)
theorem mj_s_sipush {r1 r2 r3 r4 r5 : Nat} {n : Int} (C : mj_Ctx p s m args meth c y cc nL B b D dA) (hd : decode cc pc = .ok (.sipush n, mj_len (.sipush n))) (ho : mj_okS y pc (.sipush n) r1 r2 r3 r4 r5 = true) {pc' : Nat} {loc' : mj_L} {st' : List Value} {h' : mj_H} (hs : mj_step (.sipush n) r1 r2 r3 mj_new pc loc st h = some (pc', loc', st', h')) (hr : mj_Rel B b D dA s nL n0 s0 loc h ls H locs cells slots)
    (hcl : h'.length ≤ n0 + R.cells) (hsl : mj_sl h' ≤ s0 + R.slots)
    (k : ∀ (ls' : Array Slot) (H' : Heap) (locs' : List Loc) (cells' slots' : Nat), mj_Rel B b D dA s nL n0 s0 loc' h' ls' H' locs' cells' slots' → W p l e R s m args below meth c H' locs' cells' slots' Q (F0 m pc' ls' (st'.map (mj_rv B b)))) :
    W p l e R s m args below meth c H locs cells slots Q (F0 m pc ls (st.map (mj_rv B b))) := by
  obtain ⟨hx, hb, hml, hown, hts, hK, hB, hbB, hlk, hin⟩ := C
  simp only [mj_step] at hs
  cases hs
  exact lv_sipush hx hb hd (of_decide_eq_true ho) (k _ _ _ _ _ hr)
theorem mj_s_iload {r1 r2 r3 r4 r5 : Nat} {n : Nat} (C : mj_Ctx p s m args meth c y cc nL B b D dA) (hd : decode cc pc = .ok (.iload n, mj_len (.iload n))) (ho : mj_okS y pc (.iload n) r1 r2 r3 r4 r5 = true) {pc' : Nat} {loc' : mj_L} {st' : List Value} {h' : mj_H} (hs : mj_step (.iload n) r1 r2 r3 mj_new pc loc st h = some (pc', loc', st', h')) (hr : mj_Rel B b D dA s nL n0 s0 loc h ls H locs cells slots)
    (hcl : h'.length ≤ n0 + R.cells) (hsl : mj_sl h' ≤ s0 + R.slots)
    (k : ∀ (ls' : Array Slot) (H' : Heap) (locs' : List Loc) (cells' slots' : Nat), mj_Rel B b D dA s nL n0 s0 loc' h' ls' H' locs' cells' slots' → W p l e R s m args below meth c H' locs' cells' slots' Q (F0 m pc' ls' (st'.map (mj_rv B b)))) :
    W p l e R s m args below meth c H locs cells slots Q (F0 m pc ls (st.map (mj_rv B b))) := by
  obtain ⟨hx, hb, hml, hown, hts, hK, hB, hbB, hlk, hin⟩ := C
  simp only [mj_step] at hs
  obtain ⟨v, hv, he⟩ := Option.map_eq_some_iff.mp hs
  cases he
  obtain ⟨x, rfl, hl⟩ := mj_load1_of hv
  exact lv_iload hx hb hd (hr.2.1.get hl) (k _ _ _ _ _ hr)
theorem mj_s_iload_n {r1 r2 r3 r4 r5 : Nat} {n : Fin 4} (C : mj_Ctx p s m args meth c y cc nL B b D dA) (hd : decode cc pc = .ok (.iload_n n, mj_len (.iload_n n))) (ho : mj_okS y pc (.iload_n n) r1 r2 r3 r4 r5 = true) {pc' : Nat} {loc' : mj_L} {st' : List Value} {h' : mj_H} (hs : mj_step (.iload_n n) r1 r2 r3 mj_new pc loc st h = some (pc', loc', st', h')) (hr : mj_Rel B b D dA s nL n0 s0 loc h ls H locs cells slots)
    (hcl : h'.length ≤ n0 + R.cells) (hsl : mj_sl h' ≤ s0 + R.slots)
    (k : ∀ (ls' : Array Slot) (H' : Heap) (locs' : List Loc) (cells' slots' : Nat), mj_Rel B b D dA s nL n0 s0 loc' h' ls' H' locs' cells' slots' → W p l e R s m args below meth c H' locs' cells' slots' Q (F0 m pc' ls' (st'.map (mj_rv B b)))) :
    W p l e R s m args below meth c H locs cells slots Q (F0 m pc ls (st.map (mj_rv B b))) := by
  obtain ⟨hx, hb, hml, hown, hts, hK, hB, hbB, hlk, hin⟩ := C
  simp only [mj_step] at hs
  obtain ⟨v, hv, he⟩ := Option.map_eq_some_iff.mp hs
  cases he
  obtain ⟨x, rfl, hl⟩ := mj_load1_of hv
  exact lv_iload_n hx hb hd rfl (hr.2.1.get hl) (k _ _ _ _ _ hr)
theorem mj_s_lload {r1 r2 r3 r4 r5 : Nat} {n : Nat} (C : mj_Ctx p s m args meth c y cc nL B b D dA) (hd : decode cc pc = .ok (.lload n, mj_len (.lload n))) (ho : mj_okS y pc (.lload n) r1 r2 r3 r4 r5 = true) {pc' : Nat} {loc' : mj_L} {st' : List Value} {h' : mj_H} (hs : mj_step (.lload n) r1 r2 r3 mj_new pc loc st h = some (pc', loc', st', h')) (hr : mj_Rel B b D dA s nL n0 s0 loc h ls H locs cells slots)
    (hcl : h'.length ≤ n0 + R.cells) (hsl : mj_sl h' ≤ s0 + R.slots)
    (k : ∀ (ls' : Array Slot) (H' : Heap) (locs' : List Loc) (cells' slots' : Nat), mj_Rel B b D dA s nL n0 s0 loc' h' ls' H' locs' cells' slots' → W p l e R s m args below meth c H' locs' cells' slots' Q (F0 m pc' ls' (st'.map (mj_rv B b)))) :
    W p l e R s m args below meth c H locs cells slots Q (F0 m pc ls (st.map (mj_rv B b))) := by
  obtain ⟨hx, hb, hml, hown, hts, hK, hB, hbB, hlk, hin⟩ := C
  simp only [mj_step] at hs
  obtain ⟨v, hv, he⟩ := Option.map_eq_some_iff.mp hs
  cases he
  obtain ⟨x, rfl, hl⟩ := mj_loadL_of hv
  exact lv_lload hx hb hd (hr.2.1.get hl) (k _ _ _ _ _ hr)
theorem mj_s_lload_n {r1 r2 r3 r4 r5 : Nat} {n : Fin 4} (C : mj_Ctx p s m args meth c y cc nL B b D dA) (hd : decode cc pc = .ok (.lload_n n, mj_len (.lload_n n))) (ho : mj_okS y pc (.lload_n n) r1 r2 r3 r4 r5 = true) {pc' : Nat} {loc' : mj_L} {st' : List Value} {h' : mj_H} (hs : mj_step (.lload_n n) r1 r2 r3 mj_new pc loc st h = some (pc', loc', st', h')) (hr : mj_Rel B b D dA s nL n0 s0 loc h ls H locs cells slots)
    (hcl : h'.length ≤ n0 + R.cells) (hsl : mj_sl h' ≤ s0 + R.slots)
    (k : ∀ (ls' : Array Slot) (H' : Heap) (locs' : List Loc) (cells' slots' : Nat), mj_Rel B b D dA s nL n0 s0 loc' h' ls' H' locs' cells' slots' → W p l e R s m args below meth c H' locs' cells' slots' Q (F0 m pc' ls' (st'.map (mj_rv B b)))) :
    W p l e R s m args below meth c H locs cells slots Q (F0 m pc ls (st.map (mj_rv B b))) := by
  obtain ⟨hx, hb, hml, hown, hts, hK, hB, hbB, hlk, hin⟩ := C
  simp only [mj_step] at hs
  obtain ⟨v, hv, he⟩ := Option.map_eq_some_iff.mp hs
  cases he
  obtain ⟨x, rfl, hl⟩ := mj_loadL_of hv
  exact lv_lload_n hx hb hd rfl (hr.2.1.get hl) (k _ _ _ _ _ hr)
theorem mj_s_dload {r1 r2 r3 r4 r5 : Nat} {n : Nat} (C : mj_Ctx p s m args meth c y cc nL B b D dA) (hd : decode cc pc = .ok (.dload n, mj_len (.dload n))) (ho : mj_okS y pc (.dload n) r1 r2 r3 r4 r5 = true) {pc' : Nat} {loc' : mj_L} {st' : List Value} {h' : mj_H} (hs : mj_step (.dload n) r1 r2 r3 mj_new pc loc st h = some (pc', loc', st', h')) (hr : mj_Rel B b D dA s nL n0 s0 loc h ls H locs cells slots)
    (hcl : h'.length ≤ n0 + R.cells) (hsl : mj_sl h' ≤ s0 + R.slots)
    (k : ∀ (ls' : Array Slot) (H' : Heap) (locs' : List Loc) (cells' slots' : Nat), mj_Rel B b D dA s nL n0 s0 loc' h' ls' H' locs' cells' slots' → W p l e R s m args below meth c H' locs' cells' slots' Q (F0 m pc' ls' (st'.map (mj_rv B b)))) :
    W p l e R s m args below meth c H locs cells slots Q (F0 m pc ls (st.map (mj_rv B b))) := by
  obtain ⟨hx, hb, hml, hown, hts, hK, hB, hbB, hlk, hin⟩ := C
  simp only [mj_step] at hs
  obtain ⟨v, hv, he⟩ := Option.map_eq_some_iff.mp hs
  cases he
  obtain ⟨x, rfl, hl⟩ := mj_loadD_of hv
  exact lv_dload hx hb hd (hr.2.1.get hl) (k _ _ _ _ _ hr)
theorem mj_s_dload_n {r1 r2 r3 r4 r5 : Nat} {n : Fin 4} (C : mj_Ctx p s m args meth c y cc nL B b D dA) (hd : decode cc pc = .ok (.dload_n n, mj_len (.dload_n n))) (ho : mj_okS y pc (.dload_n n) r1 r2 r3 r4 r5 = true) {pc' : Nat} {loc' : mj_L} {st' : List Value} {h' : mj_H} (hs : mj_step (.dload_n n) r1 r2 r3 mj_new pc loc st h = some (pc', loc', st', h')) (hr : mj_Rel B b D dA s nL n0 s0 loc h ls H locs cells slots)
    (hcl : h'.length ≤ n0 + R.cells) (hsl : mj_sl h' ≤ s0 + R.slots)
    (k : ∀ (ls' : Array Slot) (H' : Heap) (locs' : List Loc) (cells' slots' : Nat), mj_Rel B b D dA s nL n0 s0 loc' h' ls' H' locs' cells' slots' → W p l e R s m args below meth c H' locs' cells' slots' Q (F0 m pc' ls' (st'.map (mj_rv B b)))) :
    W p l e R s m args below meth c H locs cells slots Q (F0 m pc ls (st.map (mj_rv B b))) := by
  obtain ⟨hx, hb, hml, hown, hts, hK, hB, hbB, hlk, hin⟩ := C
  simp only [mj_step] at hs
  obtain ⟨v, hv, he⟩ := Option.map_eq_some_iff.mp hs
  cases he
  obtain ⟨x, rfl, hl⟩ := mj_loadD_of hv
  exact lv_dload_n hx hb hd rfl (hr.2.1.get hl) (k _ _ _ _ _ hr)
theorem mj_s_aload {r1 r2 r3 r4 r5 : Nat} {n : Nat} (C : mj_Ctx p s m args meth c y cc nL B b D dA) (hd : decode cc pc = .ok (.aload n, mj_len (.aload n))) (ho : mj_okS y pc (.aload n) r1 r2 r3 r4 r5 = true) {pc' : Nat} {loc' : mj_L} {st' : List Value} {h' : mj_H} (hs : mj_step (.aload n) r1 r2 r3 mj_new pc loc st h = some (pc', loc', st', h')) (hr : mj_Rel B b D dA s nL n0 s0 loc h ls H locs cells slots)
    (hcl : h'.length ≤ n0 + R.cells) (hsl : mj_sl h' ≤ s0 + R.slots)
    (k : ∀ (ls' : Array Slot) (H' : Heap) (locs' : List Loc) (cells' slots' : Nat), mj_Rel B b D dA s nL n0 s0 loc' h' ls' H' locs' cells' slots' → W p l e R s m args below meth c H' locs' cells' slots' Q (F0 m pc' ls' (st'.map (mj_rv B b)))) :
    W p l e R s m args below meth c H locs cells slots Q (F0 m pc ls (st.map (mj_rv B b))) := by
  obtain ⟨hx, hb, hml, hown, hts, hK, hB, hbB, hlk, hin⟩ := C
  simp only [mj_step] at hs
  obtain ⟨v, hv, he⟩ := Option.map_eq_some_iff.mp hs
  cases he
  obtain ⟨x, rfl, hl⟩ := mj_loadA_of hv
  exact lv_aload hx hb hd (hr.2.1.get hl) (k _ _ _ _ _ hr)
theorem mj_s_aload_n {r1 r2 r3 r4 r5 : Nat} {n : Fin 4} (C : mj_Ctx p s m args meth c y cc nL B b D dA) (hd : decode cc pc = .ok (.aload_n n, mj_len (.aload_n n))) (ho : mj_okS y pc (.aload_n n) r1 r2 r3 r4 r5 = true) {pc' : Nat} {loc' : mj_L} {st' : List Value} {h' : mj_H} (hs : mj_step (.aload_n n) r1 r2 r3 mj_new pc loc st h = some (pc', loc', st', h')) (hr : mj_Rel B b D dA s nL n0 s0 loc h ls H locs cells slots)
    (hcl : h'.length ≤ n0 + R.cells) (hsl : mj_sl h' ≤ s0 + R.slots)
    (k : ∀ (ls' : Array Slot) (H' : Heap) (locs' : List Loc) (cells' slots' : Nat), mj_Rel B b D dA s nL n0 s0 loc' h' ls' H' locs' cells' slots' → W p l e R s m args below meth c H' locs' cells' slots' Q (F0 m pc' ls' (st'.map (mj_rv B b)))) :
    W p l e R s m args below meth c H locs cells slots Q (F0 m pc ls (st.map (mj_rv B b))) := by
  obtain ⟨hx, hb, hml, hown, hts, hK, hB, hbB, hlk, hin⟩ := C
  simp only [mj_step] at hs
  obtain ⟨v, hv, he⟩ := Option.map_eq_some_iff.mp hs
  cases he
  obtain ⟨x, rfl, hl⟩ := mj_loadA_of hv
  exact lv_aload_n hx hb hd rfl (hr.2.1.get hl) (k _ _ _ _ _ hr)
theorem mj_s_istore {r1 r2 r3 r4 r5 : Nat} {n : Nat} (C : mj_Ctx p s m args meth c y cc nL B b D dA) (hd : decode cc pc = .ok (.istore n, mj_len (.istore n))) (ho : mj_okS y pc (.istore n) r1 r2 r3 r4 r5 = true) {pc' : Nat} {loc' : mj_L} {st' : List Value} {h' : mj_H} (hs : mj_step (.istore n) r1 r2 r3 mj_new pc loc st h = some (pc', loc', st', h')) (hr : mj_Rel B b D dA s nL n0 s0 loc h ls H locs cells slots)
    (hcl : h'.length ≤ n0 + R.cells) (hsl : mj_sl h' ≤ s0 + R.slots)
    (k : ∀ (ls' : Array Slot) (H' : Heap) (locs' : List Loc) (cells' slots' : Nat), mj_Rel B b D dA s nL n0 s0 loc' h' ls' H' locs' cells' slots' → W p l e R s m args below meth c H' locs' cells' slots' Q (F0 m pc' ls' (st'.map (mj_rv B b)))) :
    W p l e R s m args below meth c H locs cells slots Q (F0 m pc ls (st.map (mj_rv B b))) := by
  obtain ⟨hx, hb, hml, hown, hts, hK, hB, hbB, hlk, hin⟩ := C
  simp only [mj_step] at hs
  split at hs
  · split at hs
    · rename_i h0
      cases hs
      exact lv_istore hx hb hd hr.2.1.has (by rw [← hr.2.1.2.1]; exact h0) rfl (fun ls' hl' => k _ _ _ _ _ (hr.ofL (hr.2.1.st1 rfl hl')))
    · cases hs
  · cases hs
theorem mj_s_istore_n {r1 r2 r3 r4 r5 : Nat} {n : Fin 4} (C : mj_Ctx p s m args meth c y cc nL B b D dA) (hd : decode cc pc = .ok (.istore_n n, mj_len (.istore_n n))) (ho : mj_okS y pc (.istore_n n) r1 r2 r3 r4 r5 = true) {pc' : Nat} {loc' : mj_L} {st' : List Value} {h' : mj_H} (hs : mj_step (.istore_n n) r1 r2 r3 mj_new pc loc st h = some (pc', loc', st', h')) (hr : mj_Rel B b D dA s nL n0 s0 loc h ls H locs cells slots)
    (hcl : h'.length ≤ n0 + R.cells) (hsl : mj_sl h' ≤ s0 + R.slots)
    (k : ∀ (ls' : Array Slot) (H' : Heap) (locs' : List Loc) (cells' slots' : Nat), mj_Rel B b D dA s nL n0 s0 loc' h' ls' H' locs' cells' slots' → W p l e R s m args below meth c H' locs' cells' slots' Q (F0 m pc' ls' (st'.map (mj_rv B b)))) :
    W p l e R s m args below meth c H locs cells slots Q (F0 m pc ls (st.map (mj_rv B b))) := by
  obtain ⟨hx, hb, hml, hown, hts, hK, hB, hbB, hlk, hin⟩ := C
  simp only [mj_step] at hs
  split at hs
  · split at hs
    · rename_i h0
      cases hs
      exact lv_istore_n hx hb hd rfl hr.2.1.has (by rw [← hr.2.1.2.1]; exact h0) rfl (fun ls' hl' => k _ _ _ _ _ (hr.ofL (hr.2.1.st1 rfl hl')))
    · cases hs
  · cases hs
theorem mj_s_astore {r1 r2 r3 r4 r5 : Nat} {n : Nat} (C : mj_Ctx p s m args meth c y cc nL B b D dA) (hd : decode cc pc = .ok (.astore n, mj_len (.astore n))) (ho : mj_okS y pc (.astore n) r1 r2 r3 r4 r5 = true) {pc' : Nat} {loc' : mj_L} {st' : List Value} {h' : mj_H} (hs : mj_step (.astore n) r1 r2 r3 mj_new pc loc st h = some (pc', loc', st', h')) (hr : mj_Rel B b D dA s nL n0 s0 loc h ls H locs cells slots)
    (hcl : h'.length ≤ n0 + R.cells) (hsl : mj_sl h' ≤ s0 + R.slots)
    (k : ∀ (ls' : Array Slot) (H' : Heap) (locs' : List Loc) (cells' slots' : Nat), mj_Rel B b D dA s nL n0 s0 loc' h' ls' H' locs' cells' slots' → W p l e R s m args below meth c H' locs' cells' slots' Q (F0 m pc' ls' (st'.map (mj_rv B b)))) :
    W p l e R s m args below meth c H locs cells slots Q (F0 m pc ls (st.map (mj_rv B b))) := by
  obtain ⟨hx, hb, hml, hown, hts, hK, hB, hbB, hlk, hin⟩ := C
  simp only [mj_step] at hs
  split at hs
  · split at hs
    · rename_i h0
      cases hs
      exact lv_astore hx hb hd hr.2.1.has (by rw [← hr.2.1.2.1]; exact h0) rfl (fun ls' hl' => k _ _ _ _ _ (hr.ofL (hr.2.1.st1 rfl hl')))
    · cases hs
  · cases hs
theorem mj_s_astore_n {r1 r2 r3 r4 r5 : Nat} {n : Fin 4} (C : mj_Ctx p s m args meth c y cc nL B b D dA) (hd : decode cc pc = .ok (.astore_n n, mj_len (.astore_n n))) (ho : mj_okS y pc (.astore_n n) r1 r2 r3 r4 r5 = true) {pc' : Nat} {loc' : mj_L} {st' : List Value} {h' : mj_H} (hs : mj_step (.astore_n n) r1 r2 r3 mj_new pc loc st h = some (pc', loc', st', h')) (hr : mj_Rel B b D dA s nL n0 s0 loc h ls H locs cells slots)
    (hcl : h'.length ≤ n0 + R.cells) (hsl : mj_sl h' ≤ s0 + R.slots)
    (k : ∀ (ls' : Array Slot) (H' : Heap) (locs' : List Loc) (cells' slots' : Nat), mj_Rel B b D dA s nL n0 s0 loc' h' ls' H' locs' cells' slots' → W p l e R s m args below meth c H' locs' cells' slots' Q (F0 m pc' ls' (st'.map (mj_rv B b)))) :
    W p l e R s m args below meth c H locs cells slots Q (F0 m pc ls (st.map (mj_rv B b))) := by
  obtain ⟨hx, hb, hml, hown, hts, hK, hB, hbB, hlk, hin⟩ := C
  simp only [mj_step] at hs
  split at hs
  · split at hs
    · rename_i h0
      cases hs
      exact lv_astore_n hx hb hd rfl hr.2.1.has (by rw [← hr.2.1.2.1]; exact h0) rfl (fun ls' hl' => k _ _ _ _ _ (hr.ofL (hr.2.1.st1 rfl hl')))
    · cases hs
  · cases hs
theorem mj_s_lstore {r1 r2 r3 r4 r5 : Nat} {n : Nat} (C : mj_Ctx p s m args meth c y cc nL B b D dA) (hd : decode cc pc = .ok (.lstore n, mj_len (.lstore n))) (ho : mj_okS y pc (.lstore n) r1 r2 r3 r4 r5 = true) {pc' : Nat} {loc' : mj_L} {st' : List Value} {h' : mj_H} (hs : mj_step (.lstore n) r1 r2 r3 mj_new pc loc st h = some (pc', loc', st', h')) (hr : mj_Rel B b D dA s nL n0 s0 loc h ls H locs cells slots)
    (hcl : h'.length ≤ n0 + R.cells) (hsl : mj_sl h' ≤ s0 + R.slots)
    (k : ∀ (ls' : Array Slot) (H' : Heap) (locs' : List Loc) (cells' slots' : Nat), mj_Rel B b D dA s nL n0 s0 loc' h' ls' H' locs' cells' slots' → W p l e R s m args below meth c H' locs' cells' slots' Q (F0 m pc' ls' (st'.map (mj_rv B b)))) :
    W p l e R s m args below meth c H locs cells slots Q (F0 m pc ls (st.map (mj_rv B b))) := by
  obtain ⟨hx, hb, hml, hown, hts, hK, hB, hbB, hlk, hin⟩ := C
  simp only [mj_step] at hs
  split at hs
  · split at hs
    · rename_i h0
      cases hs
      exact lv_lstore hx hb hd hr.2.1.has (by rw [← hr.2.1.2.1]; exact h0) rfl (fun ls' hl' => k _ _ _ _ _ (hr.ofL (hr.2.1.st2 rfl hl')))
    · cases hs
  · cases hs
theorem mj_s_lstore_n {r1 r2 r3 r4 r5 : Nat} {n : Fin 4} (C : mj_Ctx p s m args meth c y cc nL B b D dA) (hd : decode cc pc = .ok (.lstore_n n, mj_len (.lstore_n n))) (ho : mj_okS y pc (.lstore_n n) r1 r2 r3 r4 r5 = true) {pc' : Nat} {loc' : mj_L} {st' : List Value} {h' : mj_H} (hs : mj_step (.lstore_n n) r1 r2 r3 mj_new pc loc st h = some (pc', loc', st', h')) (hr : mj_Rel B b D dA s nL n0 s0 loc h ls H locs cells slots)
    (hcl : h'.length ≤ n0 + R.cells) (hsl : mj_sl h' ≤ s0 + R.slots)
    (k : ∀ (ls' : Array Slot) (H' : Heap) (locs' : List Loc) (cells' slots' : Nat), mj_Rel B b D dA s nL n0 s0 loc' h' ls' H' locs' cells' slots' → W p l e R s m args below meth c H' locs' cells' slots' Q (F0 m pc' ls' (st'.map (mj_rv B b)))) :
    W p l e R s m args below meth c H locs cells slots Q (F0 m pc ls (st.map (mj_rv B b))) := by
  obtain ⟨hx, hb, hml, hown, hts, hK, hB, hbB, hlk, hin⟩ := C
  simp only [mj_step] at hs
  split at hs
  · split at hs
    · rename_i h0
      cases hs
      exact lv_lstore_n hx hb hd rfl hr.2.1.has (by rw [← hr.2.1.2.1]; exact h0) rfl (fun ls' hl' => k _ _ _ _ _ (hr.ofL (hr.2.1.st2 rfl hl')))
    · cases hs
  · cases hs
theorem mj_s_dstore {r1 r2 r3 r4 r5 : Nat} {n : Nat} (C : mj_Ctx p s m args meth c y cc nL B b D dA) (hd : decode cc pc = .ok (.dstore n, mj_len (.dstore n))) (ho : mj_okS y pc (.dstore n) r1 r2 r3 r4 r5 = true) {pc' : Nat} {loc' : mj_L} {st' : List Value} {h' : mj_H} (hs : mj_step (.dstore n) r1 r2 r3 mj_new pc loc st h = some (pc', loc', st', h')) (hr : mj_Rel B b D dA s nL n0 s0 loc h ls H locs cells slots)
    (hcl : h'.length ≤ n0 + R.cells) (hsl : mj_sl h' ≤ s0 + R.slots)
    (k : ∀ (ls' : Array Slot) (H' : Heap) (locs' : List Loc) (cells' slots' : Nat), mj_Rel B b D dA s nL n0 s0 loc' h' ls' H' locs' cells' slots' → W p l e R s m args below meth c H' locs' cells' slots' Q (F0 m pc' ls' (st'.map (mj_rv B b)))) :
    W p l e R s m args below meth c H locs cells slots Q (F0 m pc ls (st.map (mj_rv B b))) := by
  obtain ⟨hx, hb, hml, hown, hts, hK, hB, hbB, hlk, hin⟩ := C
  simp only [mj_step] at hs
  split at hs
  · split at hs
    · rename_i h0
      cases hs
      exact lv_dstore hx hb hd hr.2.1.has (by rw [← hr.2.1.2.1]; exact h0) rfl (fun ls' hl' => k _ _ _ _ _ (hr.ofL (hr.2.1.st2 rfl hl')))
    · cases hs
  · cases hs
theorem mj_s_dstore_n {r1 r2 r3 r4 r5 : Nat} {n : Fin 4} (C : mj_Ctx p s m args meth c y cc nL B b D dA) (hd : decode cc pc = .ok (.dstore_n n, mj_len (.dstore_n n))) (ho : mj_okS y pc (.dstore_n n) r1 r2 r3 r4 r5 = true) {pc' : Nat} {loc' : mj_L} {st' : List Value} {h' : mj_H} (hs : mj_step (.dstore_n n) r1 r2 r3 mj_new pc loc st h = some (pc', loc', st', h')) (hr : mj_Rel B b D dA s nL n0 s0 loc h ls H locs cells slots)
    (hcl : h'.length ≤ n0 + R.cells) (hsl : mj_sl h' ≤ s0 + R.slots)
    (k : ∀ (ls' : Array Slot) (H' : Heap) (locs' : List Loc) (cells' slots' : Nat), mj_Rel B b D dA s nL n0 s0 loc' h' ls' H' locs' cells' slots' → W p l e R s m args below meth c H' locs' cells' slots' Q (F0 m pc' ls' (st'.map (mj_rv B b)))) :
    W p l e R s m args below meth c H locs cells slots Q (F0 m pc ls (st.map (mj_rv B b))) := by
  obtain ⟨hx, hb, hml, hown, hts, hK, hB, hbB, hlk, hin⟩ := C
  simp only [mj_step] at hs
  split at hs
  · split at hs
    · rename_i h0
      cases hs
      exact lv_dstore_n hx hb hd rfl hr.2.1.has (by rw [← hr.2.1.2.1]; exact h0) rfl (fun ls' hl' => k _ _ _ _ _ (hr.ofL (hr.2.1.st2 rfl hl')))
    · cases hs
  · cases hs
theorem mj_s_iinc {r1 r2 r3 r4 r5 : Nat} {n : Nat} {z : Int} (C : mj_Ctx p s m args meth c y cc nL B b D dA) (hd : decode cc pc = .ok (.iinc n z, mj_len (.iinc n z))) (ho : mj_okS y pc (.iinc n z) r1 r2 r3 r4 r5 = true) {pc' : Nat} {loc' : mj_L} {st' : List Value} {h' : mj_H} (hs : mj_step (.iinc n z) r1 r2 r3 mj_new pc loc st h = some (pc', loc', st', h')) (hr : mj_Rel B b D dA s nL n0 s0 loc h ls H locs cells slots)
    (hcl : h'.length ≤ n0 + R.cells) (hsl : mj_sl h' ≤ s0 + R.slots)
    (k : ∀ (ls' : Array Slot) (H' : Heap) (locs' : List Loc) (cells' slots' : Nat), mj_Rel B b D dA s nL n0 s0 loc' h' ls' H' locs' cells' slots' → W p l e R s m args below meth c H' locs' cells' slots' Q (F0 m pc' ls' (st'.map (mj_rv B b)))) :
    W p l e R s m args below meth c H locs cells slots Q (F0 m pc ls (st.map (mj_rv B b))) := by
  obtain ⟨hx, hb, hml, hown, hts, hK, hB, hbB, hlk, hin⟩ := C
  simp only [mj_step] at hs
  split at hs
  · rename_i x hx2
    cases hs
    obtain ⟨k0, hk0⟩ := List.getElem?_of_mem (mj_lv_mem (B := B) (b := b) hx2)
    exact lv_iinc hx hb hd hr.2.1.has hk0 rfl (by rw [← hr.2.1.2.1]; exact (List.getElem?_eq_some_iff.mp hx2).1) rfl (fun ls' hl' => k _ _ _ _ _ (hr.ofL (hr.2.1.st1 rfl hl')))
  · cases hs
theorem mj_s_goto {r1 r2 r3 r4 r5 : Nat} {off : Int} (C : mj_Ctx p s m args meth c y cc nL B b D dA) (hd : decode cc pc = .ok (.goto off, mj_len (.goto off))) (ho : mj_okS y pc (.goto off) r1 r2 r3 r4 r5 = true) {pc' : Nat} {loc' : mj_L} {st' : List Value} {h' : mj_H} (hs : mj_step (.goto off) r1 r2 r3 mj_new pc loc st h = some (pc', loc', st', h')) (hr : mj_Rel B b D dA s nL n0 s0 loc h ls H locs cells slots)
    (hcl : h'.length ≤ n0 + R.cells) (hsl : mj_sl h' ≤ s0 + R.slots)
    (k : ∀ (ls' : Array Slot) (H' : Heap) (locs' : List Loc) (cells' slots' : Nat), mj_Rel B b D dA s nL n0 s0 loc' h' ls' H' locs' cells' slots' → W p l e R s m args below meth c H' locs' cells' slots' Q (F0 m pc' ls' (st'.map (mj_rv B b)))) :
    W p l e R s m args below meth c H locs cells slots Q (F0 m pc ls (st.map (mj_rv B b))) := by
  obtain ⟨hx, hb, hml, hown, hts, hK, hB, hbB, hlk, hin⟩ := C
  simp only [mj_step] at hs
  cases hs
  exact lv_goto hx hb hd (of_decide_eq_true ho) (k _ _ _ _ _ hr)
theorem mj_s_ifCond {r1 r2 r3 r4 r5 : Nat} {cd : ClassFile.Cond} {off : Int} (C : mj_Ctx p s m args meth c y cc nL B b D dA) (hd : decode cc pc = .ok (.ifCond cd off, mj_len (.ifCond cd off))) (ho : mj_okS y pc (.ifCond cd off) r1 r2 r3 r4 r5 = true) {pc' : Nat} {loc' : mj_L} {st' : List Value} {h' : mj_H} (hs : mj_step (.ifCond cd off) r1 r2 r3 mj_new pc loc st h = some (pc', loc', st', h')) (hr : mj_Rel B b D dA s nL n0 s0 loc h ls H locs cells slots)
    (hcl : h'.length ≤ n0 + R.cells) (hsl : mj_sl h' ≤ s0 + R.slots)
    (k : ∀ (ls' : Array Slot) (H' : Heap) (locs' : List Loc) (cells' slots' : Nat), mj_Rel B b D dA s nL n0 s0 loc' h' ls' H' locs' cells' slots' → W p l e R s m args below meth c H' locs' cells' slots' Q (F0 m pc' ls' (st'.map (mj_rv B b)))) :
    W p l e R s m args below meth c H locs cells slots Q (F0 m pc ls (st.map (mj_rv B b))) := by
  obtain ⟨hx, hb, hml, hown, hts, hK, hB, hbB, hlk, hin⟩ := C
  simp only [mj_step] at hs
  split at hs
  · cases hs
    have ho2 : (pc : Int) + off = (r1 : Int) := of_decide_eq_true ho
    cases cd
    · refine lv_if_eq hx hb hd ho2 (fun hc => ?_) (fun hc => ?_)
      · have k := k _ _ _ _ _ hr
        rw [if_pos (by simp [mj_cnd]; first | exact hc | simpa using hc)] at k
        exact k
      · have k := k _ _ _ _ _ hr
        rw [if_neg (by simp [mj_cnd]; first | exact hc | simpa using hc)] at k
        exact k
    · refine lv_if_ne hx hb hd ho2 (fun hc => ?_) (fun hc => ?_)
      · have k := k _ _ _ _ _ hr
        rw [if_pos (by simp [mj_cnd]; first | exact hc | simpa using hc)] at k
        exact k
      · have k := k _ _ _ _ _ hr
        rw [if_neg (by simp [mj_cnd]; first | exact hc | simpa using hc)] at k
        exact k
    · refine lv_if_lt hx hb hd ho2 (fun hc => ?_) (fun hc => ?_)
      · have k := k _ _ _ _ _ hr
        rw [if_pos (by simp [mj_cnd]; first | exact hc | simpa using hc)] at k
        exact k
      · have k := k _ _ _ _ _ hr
        rw [if_neg (by simp [mj_cnd]; first | exact hc | simpa using hc)] at k
        exact k
    · refine lv_if_ge hx hb hd ho2 (fun hc => ?_) (fun hc => ?_)
      · have k := k _ _ _ _ _ hr
        rw [if_pos (by simp [mj_cnd]; first | exact hc | simpa using hc)] at k
        exact k
      · have k := k _ _ _ _ _ hr
        rw [if_neg (by simp [mj_cnd]; first | exact hc | simpa using hc)] at k
        exact k
    · refine lv_if_gt hx hb hd ho2 (fun hc => ?_) (fun hc => ?_)
      · have k := k _ _ _ _ _ hr
        rw [if_pos (by simp [mj_cnd]; first | exact hc | simpa using hc)] at k
        exact k
      · have k := k _ _ _ _ _ hr
        rw [if_neg (by simp [mj_cnd]; first | exact hc | simpa using hc)] at k
        exact k
    · refine lv_if_le hx hb hd ho2 (fun hc => ?_) (fun hc => ?_)
      · have k := k _ _ _ _ _ hr
        rw [if_pos (by simp [mj_cnd]; first | exact hc | simpa using hc)] at k
        exact k
      · have k := k _ _ _ _ _ hr
        rw [if_neg (by simp [mj_cnd]; first | exact hc | simpa using hc)] at k
        exact k
  · cases hs
theorem mj_s_if_icmp {r1 r2 r3 r4 r5 : Nat} {cd : ClassFile.Cond} {off : Int} (C : mj_Ctx p s m args meth c y cc nL B b D dA) (hd : decode cc pc = .ok (.if_icmp cd off, mj_len (.if_icmp cd off))) (ho : mj_okS y pc (.if_icmp cd off) r1 r2 r3 r4 r5 = true) {pc' : Nat} {loc' : mj_L} {st' : List Value} {h' : mj_H} (hs : mj_step (.if_icmp cd off) r1 r2 r3 mj_new pc loc st h = some (pc', loc', st', h')) (hr : mj_Rel B b D dA s nL n0 s0 loc h ls H locs cells slots)
    (hcl : h'.length ≤ n0 + R.cells) (hsl : mj_sl h' ≤ s0 + R.slots)
    (k : ∀ (ls' : Array Slot) (H' : Heap) (locs' : List Loc) (cells' slots' : Nat), mj_Rel B b D dA s nL n0 s0 loc' h' ls' H' locs' cells' slots' → W p l e R s m args below meth c H' locs' cells' slots' Q (F0 m pc' ls' (st'.map (mj_rv B b)))) :
    W p l e R s m args below meth c H locs cells slots Q (F0 m pc ls (st.map (mj_rv B b))) := by
  obtain ⟨hx, hb, hml, hown, hts, hK, hB, hbB, hlk, hin⟩ := C
  simp only [mj_step] at hs
  split at hs
  · cases hs
    have ho2 : (pc : Int) + off = (r1 : Int) := of_decide_eq_true ho
    cases cd
    · refine lv_icmp_eq hx hb hd ho2 (fun hc => ?_) (fun hc => ?_)
      · have k := k _ _ _ _ _ hr
        rw [if_pos (by simp [mj_cnd]; first | exact hc | simpa using hc)] at k
        exact k
      · have k := k _ _ _ _ _ hr
        rw [if_neg (by simp [mj_cnd]; first | exact hc | simpa using hc)] at k
        exact k
    · refine lv_icmp_ne hx hb hd ho2 (fun hc => ?_) (fun hc => ?_)
      · have k := k _ _ _ _ _ hr
        rw [if_pos (by simp [mj_cnd]; first | exact hc | simpa using hc)] at k
        exact k
      · have k := k _ _ _ _ _ hr
        rw [if_neg (by simp [mj_cnd]; first | exact hc | simpa using hc)] at k
        exact k
    · refine lv_icmp_lt hx hb hd ho2 (fun hc => ?_) (fun hc => ?_)
      · have k := k _ _ _ _ _ hr
        rw [if_pos (by simp [mj_cnd]; first | exact hc | simpa using hc)] at k
        exact k
      · have k := k _ _ _ _ _ hr
        rw [if_neg (by simp [mj_cnd]; first | exact hc | simpa using hc)] at k
        exact k
    · refine lv_icmp_ge hx hb hd ho2 (fun hc => ?_) (fun hc => ?_)
      · have k := k _ _ _ _ _ hr
        rw [if_pos (by simp [mj_cnd]; first | exact hc | simpa using hc)] at k
        exact k
      · have k := k _ _ _ _ _ hr
        rw [if_neg (by simp [mj_cnd]; first | exact hc | simpa using hc)] at k
        exact k
    · refine lv_icmp_gt hx hb hd ho2 (fun hc => ?_) (fun hc => ?_)
      · have k := k _ _ _ _ _ hr
        rw [if_pos (by simp [mj_cnd]; first | exact hc | simpa using hc)] at k
        exact k
      · have k := k _ _ _ _ _ hr
        rw [if_neg (by simp [mj_cnd]; first | exact hc | simpa using hc)] at k
        exact k
    · refine lv_icmp_le hx hb hd ho2 (fun hc => ?_) (fun hc => ?_)
      · have k := k _ _ _ _ _ hr
        rw [if_pos (by simp [mj_cnd]; first | exact hc | simpa using hc)] at k
        exact k
      · have k := k _ _ _ _ _ hr
        rw [if_neg (by simp [mj_cnd]; first | exact hc | simpa using hc)] at k
        exact k
  · cases hs
theorem mj_s_dup {r1 r2 r3 r4 r5 : Nat} (C : mj_Ctx p s m args meth c y cc nL B b D dA) (hd : decode cc pc = .ok (.dup, mj_len (.dup))) (ho : mj_okS y pc (.dup) r1 r2 r3 r4 r5 = true) {pc' : Nat} {loc' : mj_L} {st' : List Value} {h' : mj_H} (hs : mj_step (.dup) r1 r2 r3 mj_new pc loc st h = some (pc', loc', st', h')) (hr : mj_Rel B b D dA s nL n0 s0 loc h ls H locs cells slots)
    (hcl : h'.length ≤ n0 + R.cells) (hsl : mj_sl h' ≤ s0 + R.slots)
    (k : ∀ (ls' : Array Slot) (H' : Heap) (locs' : List Loc) (cells' slots' : Nat), mj_Rel B b D dA s nL n0 s0 loc' h' ls' H' locs' cells' slots' → W p l e R s m args below meth c H' locs' cells' slots' Q (F0 m pc' ls' (st'.map (mj_rv B b)))) :
    W p l e R s m args below meth c H locs cells slots Q (F0 m pc ls (st.map (mj_rv B b))) := by
  obtain ⟨hx, hb, hml, hown, hts, hK, hB, hbB, hlk, hin⟩ := C
  simp only [mj_step] at hs
  split at hs
  · cases hs
    exact lv_dup hx hb hd rfl (k _ _ _ _ _ hr)
  · cases hs
    exact lv_dup hx hb hd rfl (k _ _ _ _ _ hr)
  · cases hs
theorem mj_s_dup2 {r1 r2 r3 r4 r5 : Nat} (C : mj_Ctx p s m args meth c y cc nL B b D dA) (hd : decode cc pc = .ok (.dup2, mj_len (.dup2))) (ho : mj_okS y pc (.dup2) r1 r2 r3 r4 r5 = true) {pc' : Nat} {loc' : mj_L} {st' : List Value} {h' : mj_H} (hs : mj_step (.dup2) r1 r2 r3 mj_new pc loc st h = some (pc', loc', st', h')) (hr : mj_Rel B b D dA s nL n0 s0 loc h ls H locs cells slots)
    (hcl : h'.length ≤ n0 + R.cells) (hsl : mj_sl h' ≤ s0 + R.slots)
    (k : ∀ (ls' : Array Slot) (H' : Heap) (locs' : List Loc) (cells' slots' : Nat), mj_Rel B b D dA s nL n0 s0 loc' h' ls' H' locs' cells' slots' → W p l e R s m args below meth c H' locs' cells' slots' Q (F0 m pc' ls' (st'.map (mj_rv B b)))) :
    W p l e R s m args below meth c H locs cells slots Q (F0 m pc ls (st.map (mj_rv B b))) := by
  obtain ⟨hx, hb, hml, hown, hts, hK, hB, hbB, hlk, hin⟩ := C
  simp only [mj_step] at hs
  split at hs
  · cases hs
    exact lv_dup2_11 hx hb hd rfl rfl (k _ _ _ _ _ hr)
  · cases hs
theorem mj_s_pop {r1 r2 r3 r4 r5 : Nat} (C : mj_Ctx p s m args meth c y cc nL B b D dA) (hd : decode cc pc = .ok (.pop, mj_len (.pop))) (ho : mj_okS y pc (.pop) r1 r2 r3 r4 r5 = true) {pc' : Nat} {loc' : mj_L} {st' : List Value} {h' : mj_H} (hs : mj_step (.pop) r1 r2 r3 mj_new pc loc st h = some (pc', loc', st', h')) (hr : mj_Rel B b D dA s nL n0 s0 loc h ls H locs cells slots)
    (hcl : h'.length ≤ n0 + R.cells) (hsl : mj_sl h' ≤ s0 + R.slots)
    (k : ∀ (ls' : Array Slot) (H' : Heap) (locs' : List Loc) (cells' slots' : Nat), mj_Rel B b D dA s nL n0 s0 loc' h' ls' H' locs' cells' slots' → W p l e R s m args below meth c H' locs' cells' slots' Q (F0 m pc' ls' (st'.map (mj_rv B b)))) :
    W p l e R s m args below meth c H locs cells slots Q (F0 m pc ls (st.map (mj_rv B b))) := by
  obtain ⟨hx, hb, hml, hown, hts, hK, hB, hbB, hlk, hin⟩ := C
  simp only [mj_step] at hs
  split at hs
  · cases hs
    exact lv_pop hx hb hd rfl (k _ _ _ _ _ hr)
  · cases hs
theorem mj_s_pop2 {r1 r2 r3 r4 r5 : Nat} (C : mj_Ctx p s m args meth c y cc nL B b D dA) (hd : decode cc pc = .ok (.pop2, mj_len (.pop2))) (ho : mj_okS y pc (.pop2) r1 r2 r3 r4 r5 = true) {pc' : Nat} {loc' : mj_L} {st' : List Value} {h' : mj_H} (hs : mj_step (.pop2) r1 r2 r3 mj_new pc loc st h = some (pc', loc', st', h')) (hr : mj_Rel B b D dA s nL n0 s0 loc h ls H locs cells slots)
    (hcl : h'.length ≤ n0 + R.cells) (hsl : mj_sl h' ≤ s0 + R.slots)
    (k : ∀ (ls' : Array Slot) (H' : Heap) (locs' : List Loc) (cells' slots' : Nat), mj_Rel B b D dA s nL n0 s0 loc' h' ls' H' locs' cells' slots' → W p l e R s m args below meth c H' locs' cells' slots' Q (F0 m pc' ls' (st'.map (mj_rv B b)))) :
    W p l e R s m args below meth c H locs cells slots Q (F0 m pc ls (st.map (mj_rv B b))) := by
  obtain ⟨hx, hb, hml, hown, hts, hK, hB, hbB, hlk, hin⟩ := C
  simp only [mj_step] at hs
  split at hs
  · cases hs
    exact lv_pop2_2 hx hb hd rfl (k _ _ _ _ _ hr)
  · cases hs
    exact lv_pop2_2 hx hb hd rfl (k _ _ _ _ _ hr)
  · cases hs
theorem mj_s_ldc {r1 r2 r3 r4 r5 : Nat} {i : Nat} (C : mj_Ctx p s m args meth c y cc nL B b D dA) (hd : decode cc pc = .ok (.ldc i, mj_len (.ldc i))) (ho : mj_okS y pc (.ldc i) r1 r2 r3 r4 r5 = true) {pc' : Nat} {loc' : mj_L} {st' : List Value} {h' : mj_H} (hs : mj_step (.ldc i) r1 r2 r3 mj_new pc loc st h = some (pc', loc', st', h')) (hr : mj_Rel B b D dA s nL n0 s0 loc h ls H locs cells slots)
    (hcl : h'.length ≤ n0 + R.cells) (hsl : mj_sl h' ≤ s0 + R.slots)
    (k : ∀ (ls' : Array Slot) (H' : Heap) (locs' : List Loc) (cells' slots' : Nat), mj_Rel B b D dA s nL n0 s0 loc' h' ls' H' locs' cells' slots' → W p l e R s m args below meth c H' locs' cells' slots' Q (F0 m pc' ls' (st'.map (mj_rv B b)))) :
    W p l e R s m args below meth c H locs cells slots Q (F0 m pc ls (st.map (mj_rv B b))) := by
  obtain ⟨hx, hb, hml, hown, hts, hK, hB, hbB, hlk, hin⟩ := C
  simp only [mj_step] at hs
  cases r2 with
  | zero =>
    cases hs
    exact lv_ldc hx hb hown (hts _ (mj_w_of ho).1 (mj_w_of ho).2) hd (k _ _ _ _ _ hr)
  | succ z =>
    cases hs
    exact lv_ldcf hx hb hown (hts _ (mj_w_of ho).1 (mj_w_of ho).2) hd (k _ _ _ _ _ hr)
theorem mj_s_ldc_w {r1 r2 r3 r4 r5 : Nat} {i : Nat} (C : mj_Ctx p s m args meth c y cc nL B b D dA) (hd : decode cc pc = .ok (.ldc_w i, mj_len (.ldc_w i))) (ho : mj_okS y pc (.ldc_w i) r1 r2 r3 r4 r5 = true) {pc' : Nat} {loc' : mj_L} {st' : List Value} {h' : mj_H} (hs : mj_step (.ldc_w i) r1 r2 r3 mj_new pc loc st h = some (pc', loc', st', h')) (hr : mj_Rel B b D dA s nL n0 s0 loc h ls H locs cells slots)
    (hcl : h'.length ≤ n0 + R.cells) (hsl : mj_sl h' ≤ s0 + R.slots)
    (k : ∀ (ls' : Array Slot) (H' : Heap) (locs' : List Loc) (cells' slots' : Nat), mj_Rel B b D dA s nL n0 s0 loc' h' ls' H' locs' cells' slots' → W p l e R s m args below meth c H' locs' cells' slots' Q (F0 m pc' ls' (st'.map (mj_rv B b)))) :
    W p l e R s m args below meth c H locs cells slots Q (F0 m pc ls (st.map (mj_rv B b))) := by
  obtain ⟨hx, hb, hml, hown, hts, hK, hB, hbB, hlk, hin⟩ := C
  simp only [mj_step] at hs
  cases r2 with
  | zero =>
    cases hs
    exact lv_ldcw hx hb hown (hts _ (mj_w_of ho).1 (mj_w_of ho).2) hd (k _ _ _ _ _ hr)
  | succ z =>
    cases hs
    exact mj_ldcwF hx hb hown (hts _ (mj_w_of ho).1 (mj_w_of ho).2) hd (k _ _ _ _ _ hr)
theorem mj_s_ldc2_w {r1 r2 r3 r4 r5 : Nat} {i : Nat} (C : mj_Ctx p s m args meth c y cc nL B b D dA) (hd : decode cc pc = .ok (.ldc2_w i, mj_len (.ldc2_w i))) (ho : mj_okS y pc (.ldc2_w i) r1 r2 r3 r4 r5 = true) {pc' : Nat} {loc' : mj_L} {st' : List Value} {h' : mj_H} (hs : mj_step (.ldc2_w i) r1 r2 r3 mj_new pc loc st h = some (pc', loc', st', h')) (hr : mj_Rel B b D dA s nL n0 s0 loc h ls H locs cells slots)
    (hcl : h'.length ≤ n0 + R.cells) (hsl : mj_sl h' ≤ s0 + R.slots)
    (k : ∀ (ls' : Array Slot) (H' : Heap) (locs' : List Loc) (cells' slots' : Nat), mj_Rel B b D dA s nL n0 s0 loc' h' ls' H' locs' cells' slots' → W p l e R s m args below meth c H' locs' cells' slots' Q (F0 m pc' ls' (st'.map (mj_rv B b)))) :
    W p l e R s m args below meth c H locs cells slots Q (F0 m pc ls (st.map (mj_rv B b))) := by
  obtain ⟨hx, hb, hml, hown, hts, hK, hB, hbB, hlk, hin⟩ := C
  simp only [mj_step] at hs
  cases r2 with
  | zero =>
    cases hs
    exact lv_ldc2 hx hb hown (hts _ (mj_w_of ho).1 (mj_w_of ho).2) hd (k _ _ _ _ _ hr)
  | succ z =>
    cases hs
    exact lv_ldc2d hx hb hown (hts _ (mj_w_of ho).1 (mj_w_of ho).2) hd (k _ _ _ _ _ hr)
end MJS
end
section
/-! The steps that touch cells. -/
theorem mj_cl_ne {ci : Nat} {q : vw_C} (h : mj_cl[ci]? = some q) : ci ≠ 99 := by
  have h1 := (List.getElem?_eq_some_iff.mp h).1
  intro h2
  subst h2
  exact absurd h1 (by decide)
theorem mj_in_of {i : Int32} {n : Nat} (h : mj_in i n = true) : ¬ (i < 0 ∨ n ≤ i.toNatClampNeg) := by
  unfold mj_in at h
  rw [Bool.and_eq_true, decide_eq_true_eq] at h
  intro q
  rcases q with q | q
  · have h1 := h.1
    rw [Int32.le_iff_toInt_le] at h1
    rw [Int32.lt_iff_toInt_lt] at q
    omega
  · have h2 := Nat.blt_eq.mp h.2
    omega
theorem mj_in_lt {i : Int32} {n : Nat} (h : mj_in i n = true) : i.toNatClampNeg < n := by
  have h1 := mj_in_of h
  exact Nat.not_le.mp fun q => h1 (Or.inr q)
theorem mj_not_lt {i : Int32} (h : 0 ≤ i) : ¬ i < 0 := by
  intro q
  rw [Int32.le_iff_toInt_le] at h
  rw [Int32.lt_iff_toInt_lt] at q
  omega
theorem mj_fit_ok {B b : Nat} {ty : FieldType} {v : Value} (hty : ty = .int ∨ ty = .long ∨ ty = .boolean ∨ (∃ n, ty = .object n) ∨ ∃ t, ty = .array t) (h : mj_fit (mj_kd ty) v = true) : narrow ty (mj_rv B b v) = mj_rv B b v ∧ fits ty (mj_rv B b v) = true := by
  rcases hty with rfl | rfl | rfl | ⟨n, rfl⟩ | ⟨t, rfl⟩ <;> cases v <;> simp only [mj_kd, mj_fit] at h <;> first
    | exact ⟨rfl, rfl⟩
    | (exact absurd h Bool.false_ne_true)
    | skip
  rename_i x
  rw [Bool.or_eq_true, decide_eq_true_eq, decide_eq_true_eq] at h
  rcases h with rfl | rfl <;> exact ⟨rfl, rfl⟩
def mj_tyok (ty : FieldType) : Bool := match ty with
  | .int => true
  | .long => true
  | .boolean => true
  | .object _ => true
  | .array _ => true
  | _ => false
theorem mj_tyok_of {ty : FieldType} (h : mj_tyok ty = true) : ty = .int ∨ ty = .long ∨ ty = .boolean ∨ (∃ n, ty = .object n) ∨ ∃ t, ty = .array t := by
  cases ty <;> simp_all [mj_tyok]
theorem mj_ft_ok : ((List.range 11).all fun ci => (List.range (mj_nc ci)).all fun k => mj_tyok (mj_ft ci k)) = true := by decide +kernel
theorem mj_ft_of {ci k : Nat} (h : ci < 11) (hk : k < mj_nc ci) : mj_tyok (mj_ft ci k) = true := List.all_eq_true.mp (List.all_eq_true.mp mj_ft_ok ci (List.mem_range.mpr h)) k (List.mem_range.mpr hk)
theorem mj_tys_at (dA : Nat → ClassId) {t : Nat} (h : t ≤ 6) : (mj_tys dA)[t]? = some (dA t, mj_tt t) := by
  match t, h with
  | 0, _ => rfl
  | 1, _ => rfl
  | 2, _ => rfl
  | 3, _ => rfl
  | 4, _ => rfl
  | 5, _ => rfl
  | 6, _ => rfl
section MJH
variable {p : Program} {l : Launch} {e : Env} {R : Room} {s : State} {m : MethodId} {args : Array Value} {below : List Frame} {meth : Method} {c : Code} {H : Heap} {locs : List Loc} {cells slots : Nat} {Q : State → Prop}
variable {y : MethodName} {cc : ByteArray} {nL B b n0 s0 : Nat} {D : va_G} {dA : Nat → ClassId} {pc : Nat} {loc : mj_L} {st : List Value} {h : mj_H} {ls : Array Slot}
theorem mj_Rel.putE {a : Nat} {e0 e1 : mj_E} {H1 : Heap} {k : Nat} (hbB : b < B) (hr : mj_Rel B b D dA s nL n0 s0 loc h ls H locs cells slots) (ha : a ≠ 0) (he : h[a]? = some e0) (hs : mj_slot e1 = mj_slot e0) (hat : mj_at B b D dA s (mj_ad B b a) e1 H1) (hz : H1.size = H.size) (ho : ∀ q, q ≠ mj_ad B b a → H1[q]? = H[q]?) :
    mj_Rel B b D dA s nL n0 s0 loc (h.set a e1) ls H1 (locs ++ [⟨mj_ad B b a, k⟩]) cells slots :=
  ⟨hr.1.set hbB ha hat hz ho, hr.2.1, hr.2.2.1.put hz ho (mj_ad_ge ha), by rw [List.length_set]; exact hr.2.2.2.1, by rw [mj_sl_set he hs]; exact hr.2.2.2.2⟩
theorem mj_Rel.pushE {e1 : mj_E} {H1 : Heap} (hB : B ≤ s.heap.size) (hbB : b < B) (hr : mj_Rel B b D dA s nL n0 s0 loc h ls H locs cells slots) (hat : mj_at B b D dA s H.size e1 H1) (hz : H1.size = H.size + 1) (ho : ∀ q, q < H.size → H1[q]? = H[q]?) :
    mj_Rel B b D dA s nL n0 s0 loc (h ++ [e1]) ls H1 locs (cells + 1) (slots + mj_slot e1) ∧ mj_ad B b h.length = H.size := by
  obtain ⟨h1, h2⟩ := hr.1.push hbB hat hz ho
  refine ⟨⟨h1, hr.2.1, ⟨Nat.le_trans hr.2.2.1.1 (by omega), fun q hq hA => (ho q (Nat.lt_of_lt_of_le hq hr.2.2.1.1)).trans (hr.2.2.1.2.1 q hq hA), hr.2.2.1.2.2⟩, ?_, ?_⟩, h2⟩
  · rw [List.length_append]
    have := hr.2.2.2.1
    simp
    omega
  · rw [mj_sl_push]
    have := hr.2.2.2.2
    omega
theorem mj_Rel.ne0 {a : Nat} {e0 : mj_E} (hr : mj_Rel B b D dA s nL n0 s0 loc h ls H locs cells slots) (he : h[a]? = some e0) (hn : ∀ L xs, e0 ≠ .inl (100, L, xs)) : a ≠ 0 := by
  intro h0
  subst h0
  obtain ⟨L, xs, hx⟩ := hr.1.2.1
  rw [hx] at he
  exact hn L xs (Option.some.inj he).symm

theorem mj_s_getfield {r1 r2 r3 r4 r5 : Nat} {i : Nat} (C : mj_Ctx p s m args meth c y cc nL B b D dA) (hd : decode cc pc = .ok (.getfield i, mj_len (.getfield i))) (ho : mj_okS y pc (.getfield i) r1 r2 r3 r4 r5 = true) {pc' : Nat} {loc' : mj_L} {st' : List Value} {h' : mj_H} (hs : mj_step (.getfield i) r1 r2 r3 mj_new pc loc st h = some (pc', loc', st', h')) (hr : mj_Rel B b D dA s nL n0 s0 loc h ls H locs cells slots)
    (hcl : h'.length ≤ n0 + R.cells) (hsl : mj_sl h' ≤ s0 + R.slots)
    (k : ∀ (ls' : Array Slot) (H' : Heap) (locs' : List Loc) (cells' slots' : Nat), mj_Rel B b D dA s nL n0 s0 loc' h' ls' H' locs' cells' slots' → W p l e R s m args below meth c H' locs' cells' slots' Q (F0 m pc' ls' (st'.map (mj_rv B b)))) :
    W p l e R s m args below meth c H locs cells slots Q (F0 m pc ls (st.map (mj_rv B b))) := by
  obtain ⟨hx, hb, hml, hown, hts, hK, hB, hbB, hlk, hin⟩ := C
  simp only [mj_step] at hs
  split at hs
  · rename_i a st0
    split at hs
    · rename_i ci fs he
      split at hs
      · rename_i hci
        subst hci
        split at hs
        · rename_i v hv
          cases hs
          simp only [mj_okS] at ho
          split at ho
          · rename_i q hq
            rw [Bool.and_eq_true, decide_eq_true_eq] at ho
            obtain ⟨hk, hlk2⟩ := ho
            obtain ⟨C, T, N⟩ := q
            obtain ⟨r, h1, h2, h3⟩ := hr.1.2.2 _ _ he (mj_cl_ne hq)
            cases h1.symm.trans hq
            have hc := mj_cls hq
            have htu : ∀ w ∈ u_ws C T N, w.before args s = true := fun w hw => hts w (hc.1 w hw).1 (hc.1 w hw).2
            have hP : va_P D mj_cl [(mj_ad B b a, .inr (ci, fs.map (mj_rv B b)))] H := fun k q hk => by
              have hz : k < 1 := (List.getElem?_eq_some_iff.mp hk).1
              rw [show k = 0 by omega] at hk
              cases hk
              exact ⟨_, hq, h3⟩
            have hv2 : (fs.map (mj_rv B b))[r2]? = some (mj_rv B b v) := by rw [List.getElem?_map, hv]; rfl
            cases r5 with
            | zero => exact va_get hx hb htu (fun w h => h) hown hK hP 0 rfl hq r2 hk (hts _ (mj_w_of hlk2).1 (mj_w_of hlk2).2) (fun x h => h) hv2 hd (k _ _ _ _ _ hr)
            | succ z => exact va_getN hx hb htu (fun w h => h) hown hK hP 0 rfl hq r2 hk (hts _ (mj_w_of hlk2).1 (mj_w_of hlk2).2) (fun x h => h) hv2 hd (k _ _ _ _ _ hr)
          · cases ho
        · cases hs
      · cases hs
    · cases hs
  · cases hs
theorem mj_s_putfield {r1 r2 r3 r4 r5 : Nat} {i : Nat} (C : mj_Ctx p s m args meth c y cc nL B b D dA) (hd : decode cc pc = .ok (.putfield i, mj_len (.putfield i))) (ho : mj_okS y pc (.putfield i) r1 r2 r3 r4 r5 = true) {pc' : Nat} {loc' : mj_L} {st' : List Value} {h' : mj_H} (hs : mj_step (.putfield i) r1 r2 r3 mj_new pc loc st h = some (pc', loc', st', h')) (hr : mj_Rel B b D dA s nL n0 s0 loc h ls H locs cells slots)
    (hcl : h'.length ≤ n0 + R.cells) (hsl : mj_sl h' ≤ s0 + R.slots)
    (k : ∀ (ls' : Array Slot) (H' : Heap) (locs' : List Loc) (cells' slots' : Nat), mj_Rel B b D dA s nL n0 s0 loc' h' ls' H' locs' cells' slots' → W p l e R s m args below meth c H' locs' cells' slots' Q (F0 m pc' ls' (st'.map (mj_rv B b)))) :
    W p l e R s m args below meth c H locs cells slots Q (F0 m pc ls (st.map (mj_rv B b))) := by
  obtain ⟨hx, hb, hml, hown, hts, hK, hB, hbB, hlk, hin⟩ := C
  simp only [mj_step] at hs
  split at hs
  · rename_i v a st0
    split at hs
    · rename_i ci fs he
      split at hs
      · rename_i hcond
        obtain ⟨hci, hlen, hfit⟩ := hcond
        subst hci
        cases hs
        simp only [mj_okS] at ho
        split at ho
        · rename_i q hq
          simp only [Bool.and_eq_true, decide_eq_true_eq] at ho
          obtain ⟨⟨⟨hk, hlk2⟩, hkd⟩, hfin2⟩ := ho
          obtain ⟨C, T, N⟩ := q
          obtain ⟨r, h1, h2, h3⟩ := hr.1.2.2 _ _ he (mj_cl_ne hq)
          cases h1.symm.trans hq
          have hc := mj_cls hq
          have htu : ∀ w ∈ u_ws C T N, w.before args s = true := fun w hw => hts w (hc.1 w hw).1 (hc.1 w hw).2
          have hap := va_apart (own := y.cls) htu (fun w h => h) (mj_ft ci) hc.2.1 hc.2.2.1 hK hq
          have hci11 : ci < 11 := (List.getElem?_eq_some_iff.mp hq).1
          have hkN : r2 < mj_nc ci := by rw [← hc.2.2.2.2.2]; exact hk
          subst hkd
          obtain ⟨hn, hfit2⟩ := mj_fit_ok (B := B) (b := b) (mj_tyok_of (mj_ft_of hci11 hkN)) hfit
          have ha0 := hr.ne0 he (fun L xs h => by cases h)
          obtain ⟨cell, q1, q2, q3, q4⟩ := h3
          obtain ⟨hS, hfc, kC, hkC, hkind⟩ := hK.1 ci _ hq
          obtain ⟨cf, kf, fi, f, hi, hsl2⟩ := hS r2 hk
          have hlay := htu _ (u_in_lay hk)
          have hlt : f.slot < cell.slots.size := by rw [hsl2]; exact k2_hasslot (q4 r2 hk)
          have hgo : ∀ H' : Heap, H'[mj_ad B b a]? = some (cell.setSlot f.slot (mj_rv B b v)) → H'.size = H.size → (∀ q, q ≠ mj_ad B b a → H'[q]? = H[q]?) → W p l e R s m args below meth c H' (locs ++ [⟨mj_ad B b a, f.slot⟩]) cells slots Q (F0 m (pc + 3) ls (st'.map (mj_rv B b))) := by
            intro H' e1 e2 e3
            refine k _ _ _ _ _ (hr.putE hbB ha0 he (by simp [mj_slot]) ?_ e2 e3)
            intro _
            refine ⟨_, hq, by rw [List.length_set]; exact h2, ?_⟩
            rw [hsl2] at e1
            refine t_OB.to (V := updV (vp_V (fs.map (mj_rv B b))) r2 (mj_rv B b v)) ⟨_, e1, q2, q3, t_set q4 hap hk _⟩ (fun j _ => ?_)
            rw [vp_updV_set (by rw [List.length_map]; exact hlen), List.map_set]
          cases hfin : (T r2).2.2.2 with
          | false =>
            unfold u_lay at hlay
            rw [if_neg (by rw [hfin]; decide)] at hlay
            have hst := (u_facts hfc hkC (Or.inl hlay) hi).1
            have h6 := u_store hfc hkC hkind hlay hi (hc.2.1 r2 hk) hn hfit2
            cases r5 with
            | zero => exact W.putK hx hb (f := f) ⟨hown, hts _ (mj_w_of hlk2).1 (mj_w_of hlk2).2, ⟨_, _, _, hi⟩, hst⟩ (by rw [q2]; exact h6) q1 q3 hlt rfl rfl hd hgo
            | succ z => exact va_WputK hx hb (f := f) hown (hts _ (mj_w_of hlk2).1 (mj_w_of hlk2).2) hi hst (by rw [q2]; exact h6) q1 q3 hlt rfl rfl hd hgo
          | true =>
            unfold u_lay at hlay
            rw [if_pos hfin] at hlay
            have hst := (u_facts hfc hkC (Or.inr hlay) hi).1
            rw [hfin] at hfin2
            simp only [Bool.not_true, Bool.false_or, Bool.and_eq_true, decide_eq_true_eq] at hfin2
            obtain ⟨⟨hy1, hy2⟩, hy3⟩ := hfin2
            subst hy3
            have hcf : m.cls = cf := by
              obtain ⟨_, _, c', _, _, _, -, -, hf', -, -, -, hown2, -⟩ := Cond.laysFinal_spec hlay
              have e1 : c' = cf := by have := hi.symm.trans hf'; simp at this; exact this.1.symm
              rw [hy2] at hown2
              rw [← e1]; exact Option.some.inj (hown.symm.trans hown2)
            have h6 := u_fits hfc hkC hkind (Or.inr hlay) hi (hc.2.1 r2 hk) hn hfit2
            exact W.putFinK hx hb hown (hts _ (mj_w_of hlk2).1 (mj_w_of hlk2).2) hi hst hcf (hin hy1) (by rw [q2]; exact h6) q1 q3 hlt rfl rfl hd hgo
        · cases ho
      · cases hs
    · cases hs
  · cases hs
theorem mj_s_arraylength {r1 r2 r3 r4 r5 : Nat} (C : mj_Ctx p s m args meth c y cc nL B b D dA) (hd : decode cc pc = .ok (.arraylength, mj_len (.arraylength))) (ho : mj_okS y pc (.arraylength) r1 r2 r3 r4 r5 = true) {pc' : Nat} {loc' : mj_L} {st' : List Value} {h' : mj_H} (hs : mj_step (.arraylength) r1 r2 r3 mj_new pc loc st h = some (pc', loc', st', h')) (hr : mj_Rel B b D dA s nL n0 s0 loc h ls H locs cells slots)
    (hcl : h'.length ≤ n0 + R.cells) (hsl : mj_sl h' ≤ s0 + R.slots)
    (k : ∀ (ls' : Array Slot) (H' : Heap) (locs' : List Loc) (cells' slots' : Nat), mj_Rel B b D dA s nL n0 s0 loc' h' ls' H' locs' cells' slots' → W p l e R s m args below meth c H' locs' cells' slots' Q (F0 m pc' ls' (st'.map (mj_rv B b)))) :
    W p l e R s m args below meth c H locs cells slots Q (F0 m pc ls (st.map (mj_rv B b))) := by
  obtain ⟨hx, hb, hml, hown, hts, hK, hB, hbB, hlk, hin⟩ := C
  simp only [mj_step] at hs
  split at hs
  · rename_i a st0
    split at hs
    · rename_i t n f he
      cases hs
      have hat := hr.1.2.2 _ _ he
      by_cases ht : t = 100
      · obtain ⟨scr, e1, e2, e3, e4, e5⟩ := hat.1 ht
        exact W.alen hx hb e1 e2 (by rw [e4]; rfl) rfl rfl hd (k _ _ _ _ _ hr)
      · obtain ⟨ht6, e1⟩ := hat.2 ht
        exact W.alen hx hb e1 ((hK.2 t _ (mj_tys_at dA ht6)).1 n _) (by rw [arrV_size]; rfl) rfl rfl hd (k _ _ _ _ _ hr)
    · cases hs
  · cases hs
theorem mj_s_laload {r1 r2 r3 r4 r5 : Nat} (C : mj_Ctx p s m args meth c y cc nL B b D dA) (hd : decode cc pc = .ok (.laload, mj_len (.laload))) (ho : mj_okS y pc (.laload) r1 r2 r3 r4 r5 = true) {pc' : Nat} {loc' : mj_L} {st' : List Value} {h' : mj_H} (hs : mj_step (.laload) r1 r2 r3 mj_new pc loc st h = some (pc', loc', st', h')) (hr : mj_Rel B b D dA s nL n0 s0 loc h ls H locs cells slots)
    (hcl : h'.length ≤ n0 + R.cells) (hsl : mj_sl h' ≤ s0 + R.slots)
    (k : ∀ (ls' : Array Slot) (H' : Heap) (locs' : List Loc) (cells' slots' : Nat), mj_Rel B b D dA s nL n0 s0 loc' h' ls' H' locs' cells' slots' → W p l e R s m args below meth c H' locs' cells' slots' Q (F0 m pc' ls' (st'.map (mj_rv B b)))) :
    W p l e R s m args below meth c H locs cells slots Q (F0 m pc ls (st.map (mj_rv B b))) := by
  obtain ⟨hx, hb, hml, hown, hts, hK, hB, hbB, hlk, hin⟩ := C
  simp only [mj_step] at hs
  split at hs
  · rename_i i a st0
    split at hs
    · rename_i t n f he
      split at hs
      · rename_i hcond
        obtain ⟨ht, hin2⟩ := hcond
        cases hs
        have hat := hr.1.2.2 _ _ he
        subst ht
        obtain ⟨ht6, e1⟩ := hat.2 (by decide)
        exact W.lald hx hb e1 ((hK.2 1 _ (mj_tys_at dA ht6)).1 n _) (fun q => by cases q) (by rw [arrV_size]; exact mj_in_of hin2) (arrV_read _ _ (mj_in_lt hin2)) rfl rfl hd (k _ _ _ _ _ hr)
      · cases hs
    · cases hs
  · cases hs
theorem mj_s_baload {r1 r2 r3 r4 r5 : Nat} (C : mj_Ctx p s m args meth c y cc nL B b D dA) (hd : decode cc pc = .ok (.baload, mj_len (.baload))) (ho : mj_okS y pc (.baload) r1 r2 r3 r4 r5 = true) {pc' : Nat} {loc' : mj_L} {st' : List Value} {h' : mj_H} (hs : mj_step (.baload) r1 r2 r3 mj_new pc loc st h = some (pc', loc', st', h')) (hr : mj_Rel B b D dA s nL n0 s0 loc h ls H locs cells slots)
    (hcl : h'.length ≤ n0 + R.cells) (hsl : mj_sl h' ≤ s0 + R.slots)
    (k : ∀ (ls' : Array Slot) (H' : Heap) (locs' : List Loc) (cells' slots' : Nat), mj_Rel B b D dA s nL n0 s0 loc' h' ls' H' locs' cells' slots' → W p l e R s m args below meth c H' locs' cells' slots' Q (F0 m pc' ls' (st'.map (mj_rv B b)))) :
    W p l e R s m args below meth c H locs cells slots Q (F0 m pc ls (st.map (mj_rv B b))) := by
  obtain ⟨hx, hb, hml, hown, hts, hK, hB, hbB, hlk, hin⟩ := C
  simp only [mj_step] at hs
  split at hs
  · rename_i i a st0
    split at hs
    · rename_i t n f he
      split at hs
      · rename_i hcond
        obtain ⟨ht, hin2⟩ := hcond
        cases hs
        have hat := hr.1.2.2 _ _ he
        subst ht
        obtain ⟨ht6, e1⟩ := hat.2 (by decide)
        exact W.bald hx hb e1 ((hK.2 2 _ (mj_tys_at dA ht6)).1 n _) (fun q => by cases q) (by rw [arrV_size]; exact mj_in_of hin2) (arrV_read _ _ (mj_in_lt hin2)) rfl rfl hd (k _ _ _ _ _ hr)
      · cases hs
    · cases hs
  · cases hs
theorem mj_s_iaload {r1 r2 r3 r4 r5 : Nat} (C : mj_Ctx p s m args meth c y cc nL B b D dA) (hd : decode cc pc = .ok (.iaload, mj_len (.iaload))) (ho : mj_okS y pc (.iaload) r1 r2 r3 r4 r5 = true) {pc' : Nat} {loc' : mj_L} {st' : List Value} {h' : mj_H} (hs : mj_step (.iaload) r1 r2 r3 mj_new pc loc st h = some (pc', loc', st', h')) (hr : mj_Rel B b D dA s nL n0 s0 loc h ls H locs cells slots)
    (hcl : h'.length ≤ n0 + R.cells) (hsl : mj_sl h' ≤ s0 + R.slots)
    (k : ∀ (ls' : Array Slot) (H' : Heap) (locs' : List Loc) (cells' slots' : Nat), mj_Rel B b D dA s nL n0 s0 loc' h' ls' H' locs' cells' slots' → W p l e R s m args below meth c H' locs' cells' slots' Q (F0 m pc' ls' (st'.map (mj_rv B b)))) :
    W p l e R s m args below meth c H locs cells slots Q (F0 m pc ls (st.map (mj_rv B b))) := by
  obtain ⟨hx, hb, hml, hown, hts, hK, hB, hbB, hlk, hin⟩ := C
  simp only [mj_step] at hs
  split at hs
  · rename_i i a st0
    split at hs
    · rename_i t n f he
      split at hs
      · rename_i hcond
        obtain ⟨ht, hin2⟩ := hcond
        cases hs
        have hat := hr.1.2.2 _ _ he
        rcases ht with ht | ht
        · subst ht
          obtain ⟨ht6, e1⟩ := hat.2 (by decide)
          exact W.iald hx hb e1 ((hK.2 0 _ (mj_tys_at dA ht6)).1 n _) (fun q => by cases q) (by rw [arrV_size]; exact mj_in_of hin2) (arrV_read _ _ (mj_in_lt hin2)) rfl rfl hd (k _ _ _ _ _ hr)
        · obtain ⟨scr, e1, e2, e3, e4, e5⟩ := hat.1 ht
          exact W.iald hx hb e1 e2 e3 (by rw [e4]; exact mj_in_of hin2) (e5 _ (mj_in_lt hin2)) rfl rfl hd (k _ _ _ _ _ hr)
      · cases hs
    · cases hs
  · cases hs
theorem mj_s_aaload {r1 r2 r3 r4 r5 : Nat} (C : mj_Ctx p s m args meth c y cc nL B b D dA) (hd : decode cc pc = .ok (.aaload, mj_len (.aaload))) (ho : mj_okS y pc (.aaload) r1 r2 r3 r4 r5 = true) {pc' : Nat} {loc' : mj_L} {st' : List Value} {h' : mj_H} (hs : mj_step (.aaload) r1 r2 r3 mj_new pc loc st h = some (pc', loc', st', h')) (hr : mj_Rel B b D dA s nL n0 s0 loc h ls H locs cells slots)
    (hcl : h'.length ≤ n0 + R.cells) (hsl : mj_sl h' ≤ s0 + R.slots)
    (k : ∀ (ls' : Array Slot) (H' : Heap) (locs' : List Loc) (cells' slots' : Nat), mj_Rel B b D dA s nL n0 s0 loc' h' ls' H' locs' cells' slots' → W p l e R s m args below meth c H' locs' cells' slots' Q (F0 m pc' ls' (st'.map (mj_rv B b)))) :
    W p l e R s m args below meth c H locs cells slots Q (F0 m pc ls (st.map (mj_rv B b))) := by
  obtain ⟨hx, hb, hml, hown, hts, hK, hB, hbB, hlk, hin⟩ := C
  simp only [mj_step] at hs
  split at hs
  · rename_i i a st0
    split at hs
    · rename_i t n f he
      split at hs
      · rename_i hcond
        obtain ⟨ht, hin2⟩ := hcond
        cases hs
        have hat := hr.1.2.2 _ _ he
        obtain ⟨ht6, e1⟩ := hat.2 (fun q => by rw [q] at ht; exact absurd ht (by decide))
        exact W.aald (ty := mj_tt t) hx hb e1 ((hK.2 t _ (mj_tys_at dA ht6)).1 n _) (by
          match t, ht with
          | 3, _ => rfl
          | 4, _ => rfl
          | 5, _ => rfl
          | 6, _ => rfl) (fun q => by cases q) (by rw [arrV_size]; exact mj_in_of hin2) (arrV_read _ _ (mj_in_lt hin2)) rfl rfl hd (k _ _ _ _ _ hr)
      · cases hs
    · cases hs
  · cases hs
theorem mj_s_iastore {r1 r2 r3 r4 r5 : Nat} (C : mj_Ctx p s m args meth c y cc nL B b D dA) (hd : decode cc pc = .ok (.iastore, mj_len (.iastore))) (ho : mj_okS y pc (.iastore) r1 r2 r3 r4 r5 = true) {pc' : Nat} {loc' : mj_L} {st' : List Value} {h' : mj_H} (hs : mj_step (.iastore) r1 r2 r3 mj_new pc loc st h = some (pc', loc', st', h')) (hr : mj_Rel B b D dA s nL n0 s0 loc h ls H locs cells slots)
    (hcl : h'.length ≤ n0 + R.cells) (hsl : mj_sl h' ≤ s0 + R.slots)
    (k : ∀ (ls' : Array Slot) (H' : Heap) (locs' : List Loc) (cells' slots' : Nat), mj_Rel B b D dA s nL n0 s0 loc' h' ls' H' locs' cells' slots' → W p l e R s m args below meth c H' locs' cells' slots' Q (F0 m pc' ls' (st'.map (mj_rv B b)))) :
    W p l e R s m args below meth c H locs cells slots Q (F0 m pc ls (st.map (mj_rv B b))) := by
  obtain ⟨hx, hb, hml, hown, hts, hK, hB, hbB, hlk, hin⟩ := C
  simp only [mj_step] at hs
  split at hs
  · rename_i x i a st0
    split at hs
    · rename_i t n f he
      split at hs
      · rename_i hcond
        obtain ⟨ht, hin2⟩ := hcond
        cases hs
        have hat := hr.1.2.2 _ _ he
        subst ht
        obtain ⟨ht6, e1⟩ := hat.2 (by decide)
        have ha0 := hr.ne0 he (fun L xs h => by cases h)
        refine W.iast hx hb e1 ((hK.2 0 _ (mj_tys_at dA ht6)).1 n _) (fun q => by cases q) (by rw [arrV_size]; exact mj_in_of hin2) rfl rfl hd (fun H' f1 f2 f3 => k _ _ _ _ _ (hr.putE hbB ha0 he rfl ?_ f2 f3))
        refine ⟨fun h => absurd h (by decide), fun _ => ⟨by decide, ?_⟩⟩
        rw [f1, arrV_store]
        congr 2
        funext j
        by_cases hj : j = i.toNatClampNeg
        · simp only [updV, hj, if_true]; rfl
        · simp only [updV, hj, if_false]
      · cases hs
    · cases hs
  · cases hs
theorem mj_s_lastore {r1 r2 r3 r4 r5 : Nat} (C : mj_Ctx p s m args meth c y cc nL B b D dA) (hd : decode cc pc = .ok (.lastore, mj_len (.lastore))) (ho : mj_okS y pc (.lastore) r1 r2 r3 r4 r5 = true) {pc' : Nat} {loc' : mj_L} {st' : List Value} {h' : mj_H} (hs : mj_step (.lastore) r1 r2 r3 mj_new pc loc st h = some (pc', loc', st', h')) (hr : mj_Rel B b D dA s nL n0 s0 loc h ls H locs cells slots)
    (hcl : h'.length ≤ n0 + R.cells) (hsl : mj_sl h' ≤ s0 + R.slots)
    (k : ∀ (ls' : Array Slot) (H' : Heap) (locs' : List Loc) (cells' slots' : Nat), mj_Rel B b D dA s nL n0 s0 loc' h' ls' H' locs' cells' slots' → W p l e R s m args below meth c H' locs' cells' slots' Q (F0 m pc' ls' (st'.map (mj_rv B b)))) :
    W p l e R s m args below meth c H locs cells slots Q (F0 m pc ls (st.map (mj_rv B b))) := by
  obtain ⟨hx, hb, hml, hown, hts, hK, hB, hbB, hlk, hin⟩ := C
  simp only [mj_step] at hs
  split at hs
  · rename_i x i a st0
    split at hs
    · rename_i t n f he
      split at hs
      · rename_i hcond
        obtain ⟨ht, hin2⟩ := hcond
        cases hs
        have hat := hr.1.2.2 _ _ he
        subst ht
        obtain ⟨ht6, e1⟩ := hat.2 (by decide)
        have ha0 := hr.ne0 he (fun L xs h => by cases h)
        refine W.last hx hb e1 ((hK.2 1 _ (mj_tys_at dA ht6)).1 n _) (fun q => by cases q) (by rw [arrV_size]; exact mj_in_of hin2) rfl rfl hd (fun H' f1 f2 f3 => k _ _ _ _ _ (hr.putE hbB ha0 he rfl ?_ f2 f3))
        refine ⟨fun h => absurd h (by decide), fun _ => ⟨by decide, ?_⟩⟩
        rw [f1, arrV_store]
        congr 2
        funext j
        by_cases hj : j = i.toNatClampNeg
        · simp only [updV, hj, if_true]; rfl
        · simp only [updV, hj, if_false]
      · cases hs
    · cases hs
  · cases hs
theorem mj_s_bastore {r1 r2 r3 r4 r5 : Nat} (C : mj_Ctx p s m args meth c y cc nL B b D dA) (hd : decode cc pc = .ok (.bastore, mj_len (.bastore))) (ho : mj_okS y pc (.bastore) r1 r2 r3 r4 r5 = true) {pc' : Nat} {loc' : mj_L} {st' : List Value} {h' : mj_H} (hs : mj_step (.bastore) r1 r2 r3 mj_new pc loc st h = some (pc', loc', st', h')) (hr : mj_Rel B b D dA s nL n0 s0 loc h ls H locs cells slots)
    (hcl : h'.length ≤ n0 + R.cells) (hsl : mj_sl h' ≤ s0 + R.slots)
    (k : ∀ (ls' : Array Slot) (H' : Heap) (locs' : List Loc) (cells' slots' : Nat), mj_Rel B b D dA s nL n0 s0 loc' h' ls' H' locs' cells' slots' → W p l e R s m args below meth c H' locs' cells' slots' Q (F0 m pc' ls' (st'.map (mj_rv B b)))) :
    W p l e R s m args below meth c H locs cells slots Q (F0 m pc ls (st.map (mj_rv B b))) := by
  obtain ⟨hx, hb, hml, hown, hts, hK, hB, hbB, hlk, hin⟩ := C
  simp only [mj_step] at hs
  split at hs
  · rename_i x i a st0
    split at hs
    · rename_i t n f he
      split at hs
      · rename_i hcond
        obtain ⟨ht, hin2⟩ := hcond
        cases hs
        have hat := hr.1.2.2 _ _ he
        subst ht
        obtain ⟨ht6, e1⟩ := hat.2 (by decide)
        have ha0 := hr.ne0 he (fun L xs h => by cases h)
        refine W.bast hx hb e1 ((hK.2 2 _ (mj_tys_at dA ht6)).1 n _) (fun q => by cases q) (by rw [arrV_size]; exact mj_in_of hin2) rfl rfl hd (fun H' f1 f2 f3 => k _ _ _ _ _ (hr.putE hbB ha0 he rfl ?_ f2 f3))
        refine ⟨fun h => absurd h (by decide), fun _ => ⟨by decide, ?_⟩⟩
        rw [f1, arrV_store]
        congr 2
        funext j
        by_cases hj : j = i.toNatClampNeg
        · simp only [updV, hj, if_true]; rfl
        · simp only [updV, hj, if_false]
      · cases hs
    · cases hs
  · cases hs
theorem mj_s_aastore {r1 r2 r3 r4 r5 : Nat} (C : mj_Ctx p s m args meth c y cc nL B b D dA) (hd : decode cc pc = .ok (.aastore, mj_len (.aastore))) (ho : mj_okS y pc (.aastore) r1 r2 r3 r4 r5 = true) {pc' : Nat} {loc' : mj_L} {st' : List Value} {h' : mj_H} (hs : mj_step (.aastore) r1 r2 r3 mj_new pc loc st h = some (pc', loc', st', h')) (hr : mj_Rel B b D dA s nL n0 s0 loc h ls H locs cells slots)
    (hcl : h'.length ≤ n0 + R.cells) (hsl : mj_sl h' ≤ s0 + R.slots)
    (k : ∀ (ls' : Array Slot) (H' : Heap) (locs' : List Loc) (cells' slots' : Nat), mj_Rel B b D dA s nL n0 s0 loc' h' ls' H' locs' cells' slots' → W p l e R s m args below meth c H' locs' cells' slots' Q (F0 m pc' ls' (st'.map (mj_rv B b)))) :
    W p l e R s m args below meth c H locs cells slots Q (F0 m pc ls (st.map (mj_rv B b))) := by
  obtain ⟨hx, hb, hml, hown, hts, hK, hB, hbB, hlk, hin⟩ := C
  simp only [mj_step] at hs
  split at hs
  · rename_i v i a st0
    split at hs
    · rename_i t n f he
      split at hs
      · rename_i cv fv hev
        split at hs
        · rename_i hcond
          obtain ⟨ht, hin2⟩ := hcond
          cases hs
          have hat := hr.1.2.2 _ _ he
          obtain ⟨ht6, e1⟩ := hat.2 (fun q => by rw [q] at ht; simp [mj_el] at ht)
          have ha0 := hr.ne0 he (fun L xs h => by cases h; simp [mj_el] at ht)
          have hq : mj_cl[cv]? = some (match cv with | 0 => (match mj_cl[0]? with | some q => q | none => ("", mj_T0, 0)) | 3 => (match mj_cl[3]? with | some q => q | none => ("", mj_T0, 0)) | _ => (match mj_cl[8]? with | some q => q | none => ("", mj_T0, 0))) ∧ (mj_tt t = .object (match cv with | 0 => "PolyRegisters$Bench" | 3 => "PolyRegisters$Poly" | _ => "PolyRegisters$Wide")) ∧ (cv = 0 ∨ cv = 3 ∨ cv = 8) := by
            match t, ht with
            | 3, ht => cases ht; exact ⟨rfl, rfl, Or.inl rfl⟩
            | 4, ht => cases ht; exact ⟨rfl, rfl, Or.inr (Or.inl rfl)⟩
            | 5, ht => cases ht; exact ⟨rfl, rfl, Or.inr (Or.inr rfl)⟩
          obtain ⟨hq1, hq2, hq3⟩ := hq
          obtain ⟨r, h1, h2, cellV, g1, g2, g3, -⟩ := hr.1.2.2 _ _ hev (mj_cl_ne hq1)
          have hcls := (hK.1 cv _ h1).2
          have hR := (hK.2 t _ (mj_tys_at dA ht6)).2
          have hname : mj_tt t = .object r.1 := by
            rw [hq2]
            rcases hq3 with rfl | rfl | rfl <;> (cases h1; rfl)
          rw [hname] at hR
          obtain ⟨kA, comp, k1, k2, k3, -⟩ := hR
          have hcomp : comp = D.1 cv := Option.some.inj (k3.symm.trans hcls.1)
          subst hcomp
          obtain ⟨kC, hkC, -⟩ := hcls.2
          refine W.aast hx hb e1 (fun q h => by cases h) (fun h => by cases h) k1 k2 rfl hkC ⟨fun q => mj_in_of hin2 (Or.inl q), by rw [arrV_size]; exact mj_in_lt hin2⟩ g1 (fun q h => by rw [g3] at h; cases h) (by rw [g2]; exact hkC) (by rw [g2]; exact va_assign hcls) rfl rfl hd (fun H' f1 f2 f3 => k _ _ _ _ _ (hr.putE hbB ha0 he rfl ?_ f2 f3))
          refine ⟨fun h => by subst h; simp [mj_el] at ht, fun _ => ⟨ht6, ?_⟩⟩
          rw [f1, arrV_store]
          congr 2
          funext j
          by_cases hj : j = i.toNatClampNeg
          · simp only [updV, hj, if_true]; rfl
          · simp only [updV, hj, if_false]
        · cases hs
      · cases hs
    · cases hs
  · cases hs
theorem mj_s_newarray {r1 r2 r3 r4 r5 : Nat} {i : ArrayType} (C : mj_Ctx p s m args meth c y cc nL B b D dA) (hd : decode cc pc = .ok (.newarray i, mj_len (.newarray i))) (ho : mj_okS y pc (.newarray i) r1 r2 r3 r4 r5 = true) {pc' : Nat} {loc' : mj_L} {st' : List Value} {h' : mj_H} (hs : mj_step (.newarray i) r1 r2 r3 mj_new pc loc st h = some (pc', loc', st', h')) (hr : mj_Rel B b D dA s nL n0 s0 loc h ls H locs cells slots)
    (hcl : h'.length ≤ n0 + R.cells) (hsl : mj_sl h' ≤ s0 + R.slots)
    (k : ∀ (ls' : Array Slot) (H' : Heap) (locs' : List Loc) (cells' slots' : Nat), mj_Rel B b D dA s nL n0 s0 loc' h' ls' H' locs' cells' slots' → W p l e R s m args below meth c H' locs' cells' slots' Q (F0 m pc' ls' (st'.map (mj_rv B b)))) :
    W p l e R s m args below meth c H locs cells slots Q (F0 m pc ls (st.map (mj_rv B b))) := by
  obtain ⟨hx, hb, hml, hown, hts, hK, hB, hbB, hlk, hin⟩ := C
  simp only [mj_step] at hs
  split at hs
  · rename_i n st0
    split at hs
    · rename_i hcond
      obtain ⟨hn, hby, ht⟩ := hcond
      cases hs
      simp only [mj_okS, Bool.and_eq_true, decide_eq_true_eq] at ho
      obtain ⟨hty, hw⟩ := ho
      have hcb : componentBytes (newarray.typeOf i) ≤ 8 := by
        rw [hty]
        match r1, ht with
        | 0, _ => decide
        | 1, _ => decide
        | 2, _ => decide
      have hdv : defaultValue (newarray.typeOf i) = mj_rv B b (mj_df r1) := by
        rw [hty]
        match r1, ht with
        | 0, _ => rfl
        | 1, _ => rfl
        | 2, _ => rfl
      have hl : (h ++ [Sum.inl (r1, n.toNatClampNeg, fun _ => mj_df r1)] : mj_H).length = h.length + 1 := by simp
      rw [hl] at hcl
      rw [mj_sl_push] at hsl
      have hc0 := hr.2.2.2.1
      have hs0 := hr.2.2.2.2
      simp only [mj_slot] at hsl
      refine va_newaK hx hb (by rw [hty]; exact hts _ (mj_w_of hw).1 (mj_w_of hw).2) (g := F0 m pc ls (.int n :: st0.map (mj_rv B b))) rfl hd rfl (mj_not_lt hn) rfl (Nat.le_trans (Nat.mul_le_mul_left _ hcb) hby) (by omega) (by omega) rfl (fun H1 cA e1 z1 o1 hAr hNm => ?_)
      have hcA : cA = dA r1 := by
        have h6 := (hK.2 r1 _ (mj_tys_at dA (by omega))).2
        have h7 : s.vm.findClass ("[" ++ (mj_tt r1).toString) = some (dA r1) := by
          match r1, ht with
          | 0, _ => exact h6
          | 1, _ => exact h6
          | 2, _ => exact h6
        rw [hty] at hNm
        exact Option.some.inj (hNm.symm.trans h7)
      subst hcA
      obtain ⟨hr2, hadr⟩ := hr.pushE (e1 := .inl (r1, n.toNatClampNeg, fun _ => mj_df r1)) hB hbB ⟨fun h => by omega, fun _ => ⟨by omega, by rw [e1, hdv]⟩⟩ z1 o1
      have k := k _ _ _ _ _ hr2
      rw [← hadr]
      exact k
    · cases hs
  · cases hs
theorem mj_s_anewarray {r1 r2 r3 r4 r5 : Nat} {i : Nat} (C : mj_Ctx p s m args meth c y cc nL B b D dA) (hd : decode cc pc = .ok (.anewarray i, mj_len (.anewarray i))) (ho : mj_okS y pc (.anewarray i) r1 r2 r3 r4 r5 = true) {pc' : Nat} {loc' : mj_L} {st' : List Value} {h' : mj_H} (hs : mj_step (.anewarray i) r1 r2 r3 mj_new pc loc st h = some (pc', loc', st', h')) (hr : mj_Rel B b D dA s nL n0 s0 loc h ls H locs cells slots)
    (hcl : h'.length ≤ n0 + R.cells) (hsl : mj_sl h' ≤ s0 + R.slots)
    (k : ∀ (ls' : Array Slot) (H' : Heap) (locs' : List Loc) (cells' slots' : Nat), mj_Rel B b D dA s nL n0 s0 loc' h' ls' H' locs' cells' slots' → W p l e R s m args below meth c H' locs' cells' slots' Q (F0 m pc' ls' (st'.map (mj_rv B b)))) :
    W p l e R s m args below meth c H locs cells slots Q (F0 m pc ls (st.map (mj_rv B b))) := by
  obtain ⟨hx, hb, hml, hown, hts, hK, hB, hbB, hlk, hin⟩ := C
  simp only [mj_step] at hs
  split at hs
  · rename_i n st0
    split at hs
    · rename_i hcond
      obtain ⟨hn, hby⟩ := hcond
      cases hs
      simp only [mj_okS] at ho
      split at ho
      · rename_i ci hel
        split at ho
        · rename_i q hq
          simp only [Bool.and_eq_true, decide_eq_true_eq] at ho
          obtain ⟨⟨⟨⟨hw1, hw2⟩, hty⟩, ht3⟩, ht5⟩ := ho
          have hl : (h ++ [Sum.inl (r1, n.toNatClampNeg, fun _ => Value.null)] : mj_H).length = h.length + 1 := by simp
          rw [hl] at hcl
          rw [mj_sl_push] at hsl
          have hc0 := hr.2.2.2.1
          have hs0 := hr.2.2.2.2
          simp only [mj_slot] at hsl
          refine W.anew hx hb hown (hts _ (mj_w_of hw1).1 (mj_w_of hw1).2) (hts _ (mj_w_of hw2).1 (mj_w_of hw2).2) (g := F0 m pc ls (.int n :: st0.map (mj_rv B b))) rfl hd rfl (mj_not_lt hn) hby (by omega) (by omega) (fun cA kA comp f1 f2 f3 f4 => ?_)
          generalize hH1 : H.push ({ cls := cA, slots := Array.replicate n.toNatClampNeg .null, vm := .none } : Cell) = H1
          have z1 : H1.size = H.size + 1 := by rw [← hH1, Array.size_push]
          have e1 : H1[H.size]? = some (arrV cA n.toNatClampNeg (fun _ => .null)) := by rw [← hH1, Array.getElem?_push_size, ← arrV_new]
          have o1 : ∀ q : Nat, q < H.size → H1[q]? = H[q]? := fun q hq => by rw [← hH1, Array.getElem?_push, if_neg (Nat.ne_of_lt hq)]
          have hcA : cA = dA r1 := by
            have h6 := (hK.2 r1 _ (mj_tys_at dA (by omega))).2
            simp only [hty] at h6
            obtain ⟨kB, comp2, -, -, -, h7⟩ := h6
            exact Option.some.inj (f1.symm.trans h7)
          subst hcA
          obtain ⟨hr2, hadr⟩ := hr.pushE (e1 := .inl (r1, n.toNatClampNeg, fun _ => .null)) hB hbB ⟨fun h => by omega, fun _ => ⟨by omega, by rw [e1]; rfl⟩⟩ z1 o1
          have k := k _ _ _ _ _ hr2
          rw [← hadr]
          exact k
        · cases ho
      · cases ho
    · cases hs
  · cases hs
theorem mj_s_new {r1 r2 r3 r4 r5 : Nat} {i : Nat} (C : mj_Ctx p s m args meth c y cc nL B b D dA) (hd : decode cc pc = .ok (.new i, mj_len (.new i))) (ho : mj_okS y pc (.new i) r1 r2 r3 r4 r5 = true) {pc' : Nat} {loc' : mj_L} {st' : List Value} {h' : mj_H} (hs : mj_step (.new i) r1 r2 r3 mj_new pc loc st h = some (pc', loc', st', h')) (hr : mj_Rel B b D dA s nL n0 s0 loc h ls H locs cells slots)
    (hcl : h'.length ≤ n0 + R.cells) (hsl : mj_sl h' ≤ s0 + R.slots)
    (k : ∀ (ls' : Array Slot) (H' : Heap) (locs' : List Loc) (cells' slots' : Nat), mj_Rel B b D dA s nL n0 s0 loc' h' ls' H' locs' cells' slots' → W p l e R s m args below meth c H' locs' cells' slots' Q (F0 m pc' ls' (st'.map (mj_rv B b)))) :
    W p l e R s m args below meth c H locs cells slots Q (F0 m pc ls (st.map (mj_rv B b))) := by
  obtain ⟨hx, hb, hml, hown, hts, hK, hB, hbB, hlk, hin⟩ := C
  simp only [mj_step] at hs
  cases hs
  simp only [mj_okS] at ho
  split at ho
  · rename_i q hq
    obtain ⟨C, T, N⟩ := q
    have hc := mj_cls hq
    have htu : ∀ w ∈ u_ws C T N, w.before args s = true := fun w hw => hts w (hc.1 w hw).1 (hc.1 w hw).2
    have hKn := hK.1 r1 _ hq
    have hN : (mj_new r1).length = N := by
      have h9 : N = mj_nc r1 := hc.2.2.2.2.2
      rw [h9]
      simp [mj_new]
    have hl : (h ++ [Sum.inr (r1, mj_new r1)] : mj_H).length = h.length + 1 := by simp
    rw [hl] at hcl
    rw [mj_sl_push] at hsl
    have hc0 := hr.2.2.2.1
    have hs0 := hr.2.2.2.2
    simp only [mj_slot] at hsl
    refine W.newcK hx hb hown (hts _ (mj_w_of ho).1 (mj_w_of ho).2) (hts _ hc.2.2.2.1.1 hc.2.2.2.1.2) (hts _ hc.2.2.2.2.1.1 hc.2.2.2.2.1.2) (g := F0 m pc ls (st.map (mj_rv B b))) rfl hd (by omega) (by simp only; omega) hKn.2.1 rfl (fun H1 kC hkC e1 z1 o1 => ?_)
    have hob := (u_born (mj_ft r1) htu (fun w h => h) hKn hkC e1 hc.2.1)
    obtain ⟨hr2, hadr⟩ := hr.pushE (e1 := .inr (r1, mj_new r1)) (H1 := H1) hB hbB (fun _ => ⟨_, hq, hN.symm, hob.to (fun j hj => by
      have h9 : N = mj_nc r1 := hc.2.2.2.2.2
      have hj2 : j < mj_nc r1 := by rw [← h9]; exact hj
      have hdr : ∀ ty : FieldType, mj_rv B b (defaultValue ty) = defaultValue ty := fun ty => by cases ty <;> rfl
      simp [vp_V, mj_new, hj2, hdr])⟩) z1 o1
    have k := k _ _ _ _ _ hr2
    simp only [mj_slot, hN] at k
    rw [← hadr]
    exact k
  · cases ho
end MJH
end
section
/-! new long[n][k]: the machine's own loop over the rows, walked here (the order of its cells: the outer one, then the rows). -/
def mj_mi (comp : ClassId) (M : Nat) (dv : Value) : Cell := { cls := comp, slots := Array.replicate M dv, vm := .none }
def mj_mo (c : ClassId) (N h0 : Nat) (i : Nat) : Cell := arrV c N (fun j => if j < i then .ref (h0 + 1 + j) else .null)
theorem mj_mo_0 (c : ClassId) (N h0 : Nat) : ({ cls := c, slots := Array.replicate N .null, vm := .none } : Cell) = mj_mo c N h0 0 := by
  rw [arrV_new]
  simp [mj_mo]
theorem mj_mo_s (c : ClassId) (N h0 i : Nat) : (mj_mo c N h0 i).setSlot i (.ref (h0 + 1 + i)) = mj_mo c N h0 (i + 1) := by
  unfold mj_mo
  rw [arrV_store]
  congr 1
  funext j
  by_cases e : j = i
  · subst e; simp [updV]
  · by_cases h : j < i
    · simp [updV, e, h, Nat.lt_succ_of_lt h]
    · simp [updV, e, h, show ¬ j < i + 1 by omega]
def mj_mf (s : State) (c comp : ClassId) (N M : Nat) (dv : Value) : Nat → State
  | 0 => s.pushCell (mj_mo c N s.heap.size 0)
  | i + 1 => ((mj_mf s c comp N M dv i).pushCell (mj_mi comp M dv)).setCell s.heap.size (mj_mo c N s.heap.size (i + 1))
theorem mj_mo_f (c : ClassId) (N h0 i : Nat) : (mj_mo c N h0 i).cls = c ∧ (mj_mo c N h0 i).vm = .none ∧ (mj_mo c N h0 i).slots.size = N := ⟨rfl, rfl, arrV_size _ _ _⟩
theorem mj_mf_f (s : State) (c comp : ClassId) (N M : Nat) (dv : Value) : ∀ i, (mj_mf s c comp N M dv i).heap.size = s.heap.size + 1 + i ∧ (mj_mf s c comp N M dv i).heap[s.heap.size]? = some (mj_mo c N s.heap.size i) ∧
    (mj_mf s c comp N M dv i).vm = s.vm ∧ (mj_mf s c comp N M dv i).slotsUsed = s.slotsUsed + N + i * M
  | 0 => ⟨by simp [mj_mf], by simp [mj_mf], rfl, by simp [mj_mf, mj_mo, arrV_size]⟩
  | i + 1 => by
    obtain ⟨a, b, d, u⟩ := mj_mf_f s c comp N M dv i
    have hlt : s.heap.size < (mj_mf s c comp N M dv i).heap.size := by omega
    have hb' : ((mj_mf s c comp N M dv i).pushCell (mj_mi comp M dv)).heap[s.heap.size]? = some (mj_mo c N s.heap.size i) := by rw [State.heap_pushCell_of_lt (h := hlt)]; exact b
    refine ⟨?_, State.heap_setCell_self hb', by simp [mj_mf, d], ?_⟩
    · simp [mj_mf, State.setCell, a]; omega
    · simp [mj_mf, u, mj_mi, Nat.succ_mul]; omega
theorem mj_mf_top (s : State) (f : JFrame) (c comp : ClassId) (N M : Nat) (dv : Value) : ∀ i, mj_mf (s.setTop f) c comp N M dv i = (mj_mf s c comp N M dv i).setTop f
  | 0 => rfl
  | i + 1 => by simp only [mj_mf, mj_mf_top s f c comp N M dv i, State.heap_setTop, State.pushCell_setTop, State.setCell_setTop]
theorem mj_mf_old (s : State) (c comp : ClassId) (N M : Nat) (dv : Value) {a : Addr} (ha : a < s.heap.size) : ∀ i, (mj_mf s c comp N M dv i).heap[a]? = s.heap[a]?
  | 0 => State.heap_pushCell_of_lt _ _ ha
  | i + 1 => by
    have f1 := (mj_mf_f s c comp N M dv i).1
    have hlt : a < (mj_mf s c comp N M dv i).heap.size := Nat.lt_of_lt_of_le ha (by rw [f1]; omega)
    show (((mj_mf s c comp N M dv i).pushCell (mj_mi comp M dv)).setCell s.heap.size _).heap[a]? = _
    rw [State.heap_setCell_other (Nat.ne_of_gt ha), State.heap_pushCell_of_lt (h := hlt)]
    exact mj_mf_old s c comp N M dv ha i
theorem mj_mf_in (s : State) (c comp : ClassId) (N M : Nat) (dv : Value) : ∀ i j, j < i → (mj_mf s c comp N M dv i).heap[s.heap.size + 1 + j]? = some (mj_mi comp M dv)
  | 0, _, h => absurd h (Nat.not_lt_zero _)
  | i + 1, j, h => by
    have f1 := (mj_mf_f s c comp N M dv i).1
    show (((mj_mf s c comp N M dv i).pushCell (mj_mi comp M dv)).setCell s.heap.size _).heap[s.heap.size + 1 + j]? = _
    rw [State.heap_setCell_other (show s.heap.size ≠ s.heap.size + 1 + j by omega)]
    rcases Nat.lt_or_ge j i with hj | hj
    · have hlt : s.heap.size + 1 + j < (mj_mf s c comp N M dv i).heap.size := by rw [f1]; omega
      rw [State.heap_pushCell_of_lt (h := hlt)]
      exact mj_mf_in s c comp N M dv i j hj
    · have e : j = i := by omega
      subst e
      rw [← f1]
      exact State.heap_pushCell_size _ _
section MJM
variable {E : CtlPost} {e : Env} {d : Bool} {acts : List Action} {s : State}
theorem mj_m_new {c comp : ClassId} {k : Class} {type : FieldType} {len : Nat} {init : Value} (hk : s.vm.classes[c]? = some k) (hkind : k.kind = .array comp type)
    (hlimit : ¬ len > e.platform.arrayLengthLimit) (hheap : ¬ len * componentBytes type > e.platform.maxHeapBytes) (hfit : fits type init = true) (hdef : init.isDefault = true) {Q : Addr → Pre}
    (h1 : s.heap.size < e.platform.maxCells) (h2 : s.slotsUsed + len ≤ e.platform.maxSlots)
    (hq : Q s.heap.size d acts (s.pushCell { cls := c, slots := Array.replicate len init, vm := .none })) :
    wp (_root_.Jvm.newArray c len init) Q E e d acts s := by
  have hfits : ∀ i v, (Array.replicate len init)[i]? = some v → s.fitsSlot c .none i v = true := by
    intro i v hv
    simp only [Array.getElem?_replicate] at hv
    split at hv
    · cases hv; simp [State.fitsSlot, State.slotType?, hk, hkind, hfit]
    · cases hv
  have hda : allocActs (Array.replicate len init) s.heap.size acts = acts := by
    have hall : ((Array.replicate len init).all (·.isDefault)) = true := by
      rw [Array.all_replicate]; split <;> simp [hdef]
    unfold allocActs; rw [if_pos hall]
  simp only [_root_.Jvm.newArray, _root_.Jvm.arrayFits, wp_bind', _root_.Jvm.W.ask, _root_.Jvm.W.ite, hlimit, if_false, wp_pure', _root_.Jvm.W.theClass, hk, hkind, hheap, _root_.Jvm.W.alloc, _root_.Jvm.W.stop, Option.some.injEq, exists_eq_left', Array.size_replicate, hda]
  rw [if_neg (by omega)]
  exact ⟨h1, h2, hfits, hq⟩
theorem mj_m_ref {t : FieldType} (h : t.isReference = true) (v : Value) (hv : v = .null ∨ ∃ a, v = .ref a) : fits t v = true := by
  rcases hv with rfl | ⟨a, rfl⟩ <;> cases t <;> simp [FieldType.isReference] at h <;> rfl
theorem mj_m_1 {comp cc : ClassId} {kc : Class} {type : FieldType} {m : Int32} (hkc : s.vm.classes[comp]? = some kc) (hkindc : kc.kind = .array cc type) (hm : ¬ m < 0)
    (hl2 : ¬ m.toNatClampNeg > e.platform.arrayLengthLimit) (hh2 : ¬ m.toNatClampNeg * componentBytes type > e.platform.maxHeapBytes)
    (hdf : fits type (defaultValue type) = true) (hdd : (defaultValue type).isDefault = true)
    (h1 : s.heap.size < e.platform.maxCells) (h2 : s.slotsUsed + m.toNatClampNeg ≤ e.platform.maxSlots)
    {Q : Addr → Pre} (hq : Q s.heap.size d acts (s.pushCell (mj_mi comp m.toNatClampNeg (defaultValue type)))) :
    wp (multianewarray.make comp [m]) Q E e d acts s := by
  rw [multianewarray.make]
  simp only [wp_bind', _root_.Jvm.W.ite, hm, if_false, wp_pure', _root_.Jvm.W.theClass, hkc, hkindc, Option.some.injEq, exists_eq_left']
  exact mj_m_new hkc hkindc hl2 hh2 hdf hdd h1 h2 hq
theorem mj_m_2 {c comp cc : ClassId} {k kc : Class} {t0 type : FieldType} {n m : Int32} (hk : s.vm.classes[c]? = some k) (hkind : k.kind = .array comp t0) (href : t0.isReference = true)
    (hkc : s.vm.classes[comp]? = some kc) (hkindc : kc.kind = .array cc type) (hn : ¬ n < 0) (hm : ¬ m < 0)
    (hl1 : ¬ n.toNatClampNeg > e.platform.arrayLengthLimit) (hh1 : ¬ n.toNatClampNeg * componentBytes t0 > e.platform.maxHeapBytes)
    (hl2 : ¬ m.toNatClampNeg > e.platform.arrayLengthLimit) (hh2 : ¬ m.toNatClampNeg * componentBytes type > e.platform.maxHeapBytes)
    (hdf : fits type (defaultValue type) = true) (hdd : (defaultValue type).isDefault = true)
    (hc : s.heap.size + 1 + n.toNatClampNeg ≤ e.platform.maxCells) (hs : s.slotsUsed + n.toNatClampNeg + n.toNatClampNeg * m.toNatClampNeg ≤ e.platform.maxSlots)
    {Q : Addr → Pre} (hq : ∀ d' acts', Q s.heap.size d' acts' (mj_mf s c comp n.toNatClampNeg m.toNatClampNeg (defaultValue type) n.toNatClampNeg)) :
    wp (multianewarray.make c [n, m]) Q E e d acts s := by
  have hfind : ([m].find? (· < 0)) = none := by simp [hm]
  rw [multianewarray.make]
  simp only [wp_bind', _root_.Jvm.W.ite, hn, if_false, wp_pure', _root_.Jvm.W.theClass, hk, hkind, Option.some.injEq, exists_eq_left']
  refine mj_m_new hk hkind hl1 hh1 (mj_m_ref href _ (Or.inl rfl)) rfl (by omega) (by have := Nat.zero_le (n.toNatClampNeg * m.toNatClampNeg); omega) ?_
  simp only [hfind]
  rw [ite_self, wp_bind', Std.Legacy.Range.forIn_eq_forIn_range']
  have hsz : ([:n.toNatClampNeg] : Std.Legacy.Range).size = n.toNatClampNeg := by simp [Std.Legacy.Range.size]
  rw [hsz]
  show wp (forIn (List.range' 0 n.toNatClampNeg 1) PUnit.unit _) _ E e d acts _
  refine wp_forIn_inv (fun rest s' => ∃ i, i ≤ n.toNatClampNeg ∧ rest = List.range' i (n.toNatClampNeg - i) ∧ s' = mj_mf s c comp n.toNatClampNeg m.toNatClampNeg (defaultValue type) i) _ _ ⟨0, Nat.zero_le _, rfl, by rw [mj_mo_0 c n.toNatClampNeg s.heap.size]; rfl⟩ ?_ ?_
  · rintro x rest s' d' acts' Q' ⟨i, hi, hl, rfl⟩ hnext
    have hlt : i < n.toNatClampNeg := by
      rcases Nat.lt_or_ge i n.toNatClampNeg with h | h
      · exact h
      · rw [show n.toNatClampNeg - i = 0 from by omega] at hl; simp at hl
    obtain ⟨rfl, hrest⟩ : x = i ∧ rest = List.range' (i + 1) (n.toNatClampNeg - (i + 1)) := by
      rw [show n.toNatClampNeg - i = (n.toNatClampNeg - (i + 1)) + 1 from by omega, List.range'_succ] at hl
      exact ⟨(List.cons.inj hl).1, (List.cons.inj hl).2⟩
    obtain ⟨f1, f2, f3, f4⟩ := mj_mf_f s c comp n.toNatClampNeg m.toNatClampNeg (defaultValue type) x
    obtain ⟨o1, o2, o3⟩ := mj_mo_f c n.toNatClampNeg s.heap.size x
    have hmul : x * m.toNatClampNeg + m.toNatClampNeg ≤ n.toNatClampNeg * m.toNatClampNeg := by
      have := Nat.mul_le_mul_right m.toNatClampNeg (show x + 1 ≤ n.toNatClampNeg from hlt)
      rw [Nat.succ_mul] at this; exact this
    simp only [wp_bind']
    refine mj_m_1 (by rw [f3]; exact hkc) hkindc hm hl2 hh2 hdf hdd (by rw [f1]; omega) (by rw [f4]; omega) ?_
    have hlt0 : s.heap.size < (mj_mf s c comp n.toNatClampNeg m.toNatClampNeg (defaultValue type) x).heap.size := by rw [f1]; omega
    simp only [wp_bind', _root_.Jvm.W.writeLoc, wp_pure']
    refine ⟨mj_mo c n.toNatClampNeg s.heap.size x, by rw [State.heap_pushCell_of_lt (h := hlt0)]; exact f2, by rw [o2]; simp, by rw [o3]; exact hlt, ?_, hnext _ _ _ ⟨x + 1, hlt, hrest, ?_⟩⟩
    · rw [o1, o2]
      simp [State.fitsSlot, State.slotType?, f3, hk, hkind, mj_m_ref href _ (Or.inr ⟨_, rfl⟩)]
    · rw [f1, mj_mo_s]; rfl
  · rintro s' d' acts' ⟨i, hi, hl, rfl⟩
    have hiN : i = n.toNatClampNeg := by
      rcases Nat.lt_or_ge i n.toNatClampNeg with h | h
      · rw [show n.toNatClampNeg - i = (n.toNatClampNeg - (i + 1)) + 1 from by omega, List.range'_succ] at hl; cases hl
      · omega
    subst hiN
    simp only [wp_pure']
    exact hq _ _
end MJM
section MJN
variable {p : Program} {l : Launch} {e : Env} {R : Room} {s : State} {m : MethodId} {args : Array Value} {below : List Frame} {meth : Method} {c : Code} {T : State} {locs : List Loc} {cells slots : Nat}
theorem mj_filled (X : Stand p l e R s m args below meth c T locs cells slots) (cA comp : ClassId) (N M : Nat) (dv : Value) :
    ∀ i, Stand p l e R s m args below meth c (mj_mf T cA comp N M dv i) (locs ++ (List.range i).map fun j => ⟨T.heap.size, j⟩) (cells + 1 + i) (slots + N + i * M)
  | 0 => by
    have h := X.pushed (mj_mo cA N T.heap.size 0)
    rw [(mj_mo_f cA N T.heap.size 0).2.2] at h
    simpa [mj_mf] using h
  | i + 1 => by
    have Xi := mj_filled X cA comp N M dv i
    obtain ⟨f1, f2, f3, f4⟩ := mj_mf_f T cA comp N M dv i
    have hlt0 : T.heap.size < (mj_mf T cA comp N M dv i).heap.size := by rw [f1]; omega
    have hcell : ((mj_mf T cA comp N M dv i).pushCell (mj_mi comp M dv)).heap[T.heap.size]? = some (mj_mo cA N T.heap.size i) := by rw [State.heap_pushCell_of_lt (h := hlt0)]; exact f2
    have h := (Xi.pushed (mj_mi comp M dv)).stored hcell i (.ref (T.heap.size + 1 + i))
    rw [mj_mo_s] at h
    have e1 : (mj_mi comp M dv).slots.size = M := by simp [mj_mi]
    rw [e1] at h
    have e2 : (locs ++ (List.range (i + 1)).map fun j => (⟨T.heap.size, j⟩ : Loc)) = (locs ++ (List.range i).map fun j => (⟨T.heap.size, j⟩ : Loc)) ++ [⟨T.heap.size, i⟩] := by simp [List.range_succ, List.append_assoc]
    have e3 : slots + N + (i + 1) * M = slots + N + i * M + M := by rw [Nat.succ_mul]; omega
    rw [e2, e3]
    exact h
theorem mj_multi (X : Stand p l e R s m args below meth c T locs cells slots) (hexec : p.tables.exec = Jvm.exec) {own : String} {index : Nat} {ty : FieldType}
    (hown : s.vm.findClass own = some m.cls) (hclink : (Jvm.Cond.classLink own index ("[" ++ (FieldType.array ty).toString)).before args s = true)
    (hover : (Jvm.Cond.arrayOver (.array ty)).before args s = true) (harr : (Jvm.Cond.arrayClass ty).before args s = true)
    {g : JFrame} (hg : g.method = m) (hdg : decode c.code g.pc = .ok (.multianewarray index 2, 4)) {n k : Int32} {rest : List Value} (hstack : g.stack = .int k :: .int n :: rest)
    (hn : ¬ n < 0) (hk : ¬ k < 0) (hb1 : n.toNatClampNeg * 4 ≤ 536870912) (hb2 : k.toNatClampNeg * componentBytes ty ≤ 536870912) (hb3 : k.toNatClampNeg ≤ 536870912)
    (hdf : fits ty (defaultValue ty) = true) (hdd : (defaultValue ty).isDefault = true)
    (hcells : cells + (1 + n.toNatClampNeg) ≤ R.cells) (hslots : slots + (n.toNatClampNeg + n.toNatClampNeg * k.toNatClampNeg) ≤ R.slots) :
    ∃ (vm₁ : Vm) (cA comp : ClassId), s.WarmedH vm₁ ∧ s.vm.findClass ("[" ++ (FieldType.array ty).toString) = some cA ∧ s.vm.findClass (FieldType.array ty).toString = some comp ∧
      Stand p l e R s m args below meth c (mj_mf (T.setVm vm₁) cA comp n.toNatClampNeg k.toNatClampNeg (defaultValue ty) n.toNatClampNeg) (locs ++ (List.range n.toNatClampNeg).map fun j => ⟨T.heap.size, j⟩) (cells + 1 + n.toNatClampNeg) (slots + n.toNatClampNeg + n.toNatClampNeg * k.toNatClampNeg) ∧
      ∀ target, Steps p.tables e below ((mj_mf (T.setVm vm₁) cA comp n.toNatClampNeg k.toNatClampNeg (defaultValue ty) n.toNatClampNeg).setTop { g with pc := g.pc + 4, stack := .ref T.heap.size :: rest }) target →
        Steps p.tables e below (T.setTop g) target := by
  subst hg
  have hpl : e.platform.magicAccessors = ({} : Platform).magicAccessors := by rw [X.admits.platform]
  obtain ⟨comp, cA, kA, hcomp, -, hkA, hkindA, hnameA⟩ := mj_overA hover
  obtain ⟨comp', kC, cc, hcomp', hkC, hkindC⟩ := Cond.arrayClass_spec harr
  have ecomp : comp' = comp := Option.some.inj (hcomp'.symm.trans hcomp)
  subst ecomp
  obtain ⟨c0, hfc0, hcl⟩ := Cond.classLink_spec hown hclink e.platform hpl
  cases hnameA.symm.trans hfc0
  obtain ⟨hg₁, hwarm₁, hready₁⟩ := State.classEntry (e := e) X.warmed hcl
  generalize T.vm.noted g.method.cls index (.cls cA) = vm₁ at hg₁ hwarm₁ hready₁
  have hal : s.vm.Alike vm₁ := hwarm₁.alike
  obtain ⟨kA₁, hkA₁, heA⟩ := hal.2.2 _ _ hkA
  obtain ⟨kC₁, hkC₁, heC⟩ := hal.2.2 _ _ hkC
  have hkindA₁ : kA₁.kind = .array comp' (.array ty) := by rw [heA]; exact hkindA
  have hkindC₁ : kC₁.kind = .array cc ty := by rw [heC]; exact hkindC
  have X₁ := X.noted hwarm₁
  obtain ⟨hr1, hr2⟩ := X.roomAbove hcells hslots
  refine ⟨vm₁, cA, comp', hwarm₁, hnameA, hcomp, mj_filled X₁ cA comp' _ _ _ _, fun target hrest => ?_⟩
  have hl1 : ¬ n.toNatClampNeg > e.platform.arrayLengthLimit := by rw [Launch.admits_arrayLengthLimit X.admits]; omega
  have hh1 : ¬ n.toNatClampNeg * componentBytes (.array ty) > e.platform.maxHeapBytes := by
    rw [Launch.admits_maxHeapBytes X.admits]; show ¬ n.toNatClampNeg * 4 > 536870912; omega
  have hl2 : ¬ k.toNatClampNeg > e.platform.arrayLengthLimit := by rw [Launch.admits_arrayLengthLimit X.admits]; omega
  have hh2 : ¬ k.toNatClampNeg * componentBytes ty > e.platform.maxHeapBytes := by rw [Launch.admits_maxHeapBytes X.admits]; omega
  jvm_step X.here [hexec, hdg]
  simp only [multianewarray.sem, wp_bind', _root_.Jvm.W.resolveClassAt_links (State.method?_setTop g X.here.top) hg₁]
  rw [_root_.Jvm.W.popN, if_neg (by decide)]
  refine ⟨g, State.topJava?_setTop' (s := T.setVm vm₁) g X.here.top, [.int n, .int k], rest, rfl, hstack, ?_⟩
  simp only [List.mapM_cons, List.mapM_nil, wp_bind', wp_pure']
  refine mj_m_2 (k := kA₁) (kc := kC₁) (comp := comp') (cc := cc) (t0 := .array ty) (type := ty) hkA₁ hkindA₁ rfl hkC₁ hkindC₁ hn hk hl1 hh1 hl2 hh2 hdf hdd (by show T.heap.size + 1 + _ ≤ _; omega) (by show T.slotsUsed + _ + _ ≤ _; omega) (fun d' acts' => ?_)
  have XF := mj_filled X₁ cA comp' n.toNatClampNeg k.toNatClampNeg (defaultValue ty) n.toNatClampNeg
  have eS : ((T.setTop g).setVm vm₁).setTop { g with stack := rest } = (T.setVm vm₁).setTop { g with stack := rest } := by
    show ((T.setVm vm₁).setTop g).setTop _ = _
    rw [State.setTop_setTop]
  rw [eS, mj_mf_top]
  simp only [wp_bind', _root_.Jvm.W.mark, _root_.Jvm.W.pushRef, State.topJava?_setTop' _ XF.here.top, Option.some.injEq, exists_eq_left', State.setTop_setTop, State.heap_setTop]
  intro acts
  simp [jvm, XF.here.top]
  exact hrest
end MJN
end
section
/-! The last two steps, and all of them as one. -/
section MJC
variable {p : Program} {l : Launch} {e : Env} {R : Room} {s : State} {m : MethodId} {args : Array Value} {below : List Frame} {meth : Method} {c : Code} {H : Heap} {locs : List Loc} {cells slots : Nat} {Q : State → Prop}
variable {y : MethodName} {cc : ByteArray} {nL B b n0 s0 : Nat} {D : va_G} {dA : Nat → ClassId} {pc : Nat} {loc : mj_L} {st : List Value} {h : mj_H} {ls : Array Slot}
theorem mj_rows_len (n k z : Nat) : (mj_rows n k z).length = n := by simp [mj_rows]
theorem mj_rows_get {n k z j : Nat} {e : mj_E} (h : (mj_rows n k z)[j]? = some e) : j < n ∧ e = .inl (1, k, fun _ => .long 0) := by
  have hl := (List.getElem?_eq_some_iff.mp h).1
  rw [mj_rows_len] at hl
  refine ⟨hl, ?_⟩
  simp only [mj_rows, List.getElem?_map] at h
  obtain ⟨x, -, hx⟩ := Option.map_eq_some_iff.mp h
  exact hx.symm
theorem mj_rows_sl : ∀ (n k z : Nat), mj_sl (mj_rows n k z) = n * k := by
  intro n k z
  unfold mj_rows mj_sl
  induction n with
  | zero => simp
  | succ n ih =>
    rw [List.range_succ, List.map_append, List.map_append, List.sum_append, ih]
    simp [mj_slot, Nat.succ_mul]

theorem mj_s_multi {r1 r2 r3 r4 r5 : Nat} {i dm : Nat} (C : mj_Ctx p s m args meth c y cc nL B b D dA) (hd : decode cc pc = .ok (.multianewarray i dm, mj_len (.multianewarray i dm))) (ho : mj_okS y pc (.multianewarray i dm) r1 r2 r3 r4 r5 = true) {pc' : Nat} {loc' : mj_L} {st' : List Value} {h' : mj_H} (hs : mj_step (.multianewarray i dm) r1 r2 r3 mj_new pc loc st h = some (pc', loc', st', h')) (hr : mj_Rel B b D dA s nL n0 s0 loc h ls H locs cells slots)
    (hcl : h'.length ≤ n0 + R.cells) (hsl : mj_sl h' ≤ s0 + R.slots)
    (k : ∀ (ls' : Array Slot) (H' : Heap) (locs' : List Loc) (cells' slots' : Nat), mj_Rel B b D dA s nL n0 s0 loc' h' ls' H' locs' cells' slots' → W p l e R s m args below meth c H' locs' cells' slots' Q (F0 m pc' ls' (st'.map (mj_rv B b)))) :
    W p l e R s m args below meth c H locs cells slots Q (F0 m pc ls (st.map (mj_rv B b))) := by
  obtain ⟨hx, hb, hml, hown, hts, hK, hB, hbB, hlk, hin⟩ := C
  simp only [mj_step] at hs
  split at hs
  · rename_i k0 n st0
    split at hs
    · rename_i hcond
      obtain ⟨hn, hk, hb1, hb2⟩ := hcond
      cases hs
      simp only [mj_okS, Bool.and_eq_true, decide_eq_true_eq] at ho
      obtain ⟨⟨⟨hdm, hw1⟩, hw2⟩, hw3⟩ := ho
      subst hdm
      generalize hN : n.toNatClampNeg = N at *
      generalize hM : k0.toNatClampNeg = M at *
      have hl : (h ++ (Sum.inl (6, N, fun i => if i < N then Value.ref (h.length + 1 + i) else Value.null) :: mj_rows N M 0) : mj_H).length = h.length + 1 + N := by
        rw [List.length_append, List.length_cons, mj_rows_len]; omega
      have hsl2 : mj_sl (h ++ (Sum.inl (6, N, fun i => if i < N then Value.ref (h.length + 1 + i) else Value.null) :: mj_rows N M 0) : mj_H) = mj_sl h + N + N * M := by
        have h1 : ∀ a b : mj_H, mj_sl (a ++ b) = mj_sl a + mj_sl b := fun a b => by simp [mj_sl]
        have h2 : ∀ (x : mj_E) (b : mj_H), mj_sl (x :: b) = mj_slot x + mj_sl b := fun a b => by simp [mj_sl]
        rw [h1, h2, mj_rows_sl]
        simp only [mj_slot]
        omega
      rw [hl] at hcl
      rw [hsl2] at hsl
      have hc0 := hr.2.2.2.1
      have hs0 := hr.2.2.2.2
      intro T hT X
      obtain ⟨vm₁, cA, comp, hW, hfA, hfC, X1, step⟩ := mj_multi (ty := .long) X hx hown (hts _ (mj_w_of hw1).1 (mj_w_of hw1).2) (hts _ (mj_w_of hw2).1 (mj_w_of hw2).2) (hts _ (mj_w_of hw3).1 (mj_w_of hw3).2) (g := F0 m pc ls (.int k0 :: .int n :: st0.map (mj_rv B b))) rfl (by rw [hb]; exact hd) rfl (mj_not_lt hn) (mj_not_lt hk) (by rw [hN]; exact hb1) (by rw [hM]; exact hb2) (by rw [hM]; omega) rfl rfl (by rw [hN]; omega) (by rw [hN, hM]; omega)
      rw [hN, hM] at X1 step
      have hcA : cA = dA 6 := by
        have h6 : s.vm.findClass ("[" ++ (FieldType.array .long).toString) = some (dA 6) := (hK.2 6 _ (mj_tys_at dA (Nat.le_refl 6))).2
        exact Option.some.inj (hfA.symm.trans h6)
      have hcB : comp = dA 1 := by
        have h6 : s.vm.findClass ("[" ++ FieldType.long.toString) = some (dA 1) := (hK.2 1 _ (mj_tys_at dA (by decide))).2
        exact Option.some.inj (hfC.symm.trans h6)
      subst hcA
      subst hcB
      generalize hF : mj_mf (T.setVm vm₁) (dA 6) (dA 1) N M (defaultValue .long) N = F at X1 step
      have hTh : (T.setVm vm₁).heap = H := hT
      obtain ⟨f1, f2, -, -⟩ := mj_mf_f (T.setVm vm₁) (dA 6) (dA 1) N M (defaultValue .long) N
      rw [hF, hTh] at f1 f2
      have fold : ∀ x : Nat, x < H.size → F.heap[x]? = H[x]? := fun x hx => by
        have := mj_mf_old (T.setVm vm₁) (dA 6) (dA 1) N M (defaultValue .long) (a := x) (by rw [hTh]; exact hx) N
        rw [hF, hTh] at this
        exact this
      have frow : ∀ j : Nat, j < N → F.heap[H.size + 1 + j]? = some (mj_mi (dA 1) M (.long 0)) := fun j hj => by
        have := mj_mf_in (T.setVm vm₁) (dA 6) (dA 1) N M (defaultValue .long) N j hj
        rw [hF, hTh] at this
        exact this
      have hz := hr.1.1
      obtain ⟨L0, xs0, h00⟩ := hr.1.2.1
      have hlp : 0 < h.length := (List.getElem?_eq_some_iff.mp h00).1
      have had : ∀ j, mj_ad B b (h.length + j) = H.size + j := fun j => by
        cases hh : h.length + j with
        | zero => omega
        | succ z => simp only [mj_ad]; omega
      have hrel : mj_Rel B b D dA s nL n0 s0 loc (h ++ (Sum.inl (6, N, fun i => if i < N then Value.ref (h.length + 1 + i) else Value.null) :: mj_rows N M 0)) ls F.heap (locs ++ (List.range N).map fun j => ⟨T.heap.size, j⟩) (cells + 1 + N) (slots + N + N * M) := by
        refine ⟨⟨by rw [f1, hl]; omega, ⟨L0, xs0, by rw [List.getElem?_append_left hlp]; exact h00⟩, fun j x hxj => ?_⟩, hr.2.1, ⟨by rw [f1]; have := hr.2.2.1.1; omega, fun q hq hA => (fold q (Nat.lt_of_lt_of_le hq hr.2.2.1.1)).trans (hr.2.2.1.2.1 q hq hA), fun q hq => ?_⟩, by rw [hl]; omega, by rw [hsl2]; omega⟩
        · by_cases hj : j < h.length
          · rw [List.getElem?_append_left hj] at hxj
            exact (hr.1.2.2 j x hxj).kept (fold _ (hr.1.lt hbB hxj))
          · rw [List.getElem?_append_right (by omega)] at hxj
            obtain ⟨i0, rfl⟩ : ∃ i0, j = h.length + i0 := ⟨j - h.length, by omega⟩
            rw [show h.length + i0 - h.length = i0 by omega] at hxj
            rw [had]
            cases i0 with
            | zero =>
              simp only [List.getElem?_cons_zero, Option.some.injEq] at hxj
              subst hxj
              refine ⟨fun h => absurd h (by decide), fun _ => ⟨Nat.le_refl 6, ?_⟩⟩
              rw [Nat.add_zero, f2]
              unfold mj_mo
              refine congrArg (fun z => some (arrV (dA 6) N z)) (funext fun j => ?_)
              by_cases hjN : j < N
              · simp only [hjN, if_true, mj_rv]
                rw [show h.length + 1 + j = h.length + (1 + j) by omega, had]
                exact congrArg Value.ref (Nat.add_assoc H.size 1 j)
              · simp only [hjN, if_false, mj_rv]
            | succ z =>
              simp only [List.getElem?_cons_succ] at hxj
              obtain ⟨hzN, rfl⟩ := mj_rows_get hxj
              refine ⟨fun h => absurd h (by decide), fun _ => ⟨by decide, ?_⟩⟩
              rw [show H.size + (z + 1) = H.size + 1 + z by omega, frow z hzN]
              unfold mj_mi
              rw [arrV_new]
              rfl
        · rcases List.mem_append.mp hq with h1 | h1
          · exact hr.2.2.1.2.2 q h1
          · obtain ⟨j, -, rfl⟩ := List.mem_map.mp h1
            show B ≤ T.heap.size
            rw [hT]
            exact Nat.le_trans hB hr.2.2.1.1
      obtain ⟨t, a1, b1⟩ := k _ _ _ _ _ hrel F rfl X1
      refine ⟨t, step t ?_, b1⟩
      have h9 : mj_rv B b (Value.ref h.length) = Value.ref T.heap.size := by
        have := had 0
        rw [Nat.add_zero, Nat.add_zero] at this
        simp only [mj_rv, this, hT]
      rw [List.map_cons, h9] at a1
      exact a1
    · cases hs
  · cases hs
theorem mj_s_switch {r1 r2 r3 len : Nat} {dflt lo hi : Int} {offs : Array Int} (C : mj_Ctx p s m args meth c y cc nL B b D dA) (hd : decode cc pc = .ok (.tableswitch dflt lo hi offs, len)) {pc' : Nat} {loc' : mj_L} {st' : List Value} {h' : mj_H} (hs : mj_step (.tableswitch dflt lo hi offs) r1 r2 r3 mj_new pc loc st h = some (pc', loc', st', h')) (hr : mj_Rel B b D dA s nL n0 s0 loc h ls H locs cells slots)
    (k : ∀ (ls' : Array Slot) (H' : Heap) (locs' : List Loc) (cells' slots' : Nat), mj_Rel B b D dA s nL n0 s0 loc' h' ls' H' locs' cells' slots' → W p l e R s m args below meth c H' locs' cells' slots' Q (F0 m pc' ls' (st'.map (mj_rv B b)))) :
    W p l e R s m args below meth c H locs cells slots Q (F0 m pc ls (st.map (mj_rv B b))) := by
  obtain ⟨hx, hb, hml, hown, hts, hK, hB, hbB, hlk, hin⟩ := C
  simp only [mj_step] at hs
  split at hs
  · rename_i x st0
    split at hs
    · rename_i h0
      split at hs
      · rename_i h1
        cases hs
        exact lv_tableOut hx hb hd h0 (Int.toNat_of_nonneg h1).symm (k _ _ _ _ _ hr)
      · cases hs
    · rename_i h0
      split at hs
      · rename_i off hoff
        split at hs
        · rename_i h1
          cases hs
          exact lv_tableIn hx hb hd (fun q => h0 (Or.inl q)) (fun q => h0 (Or.inr q)) hoff (Int.toNat_of_nonneg h1).symm (k _ _ _ _ _ hr)
        · cases hs
      · cases hs
  · cases hs

set_option maxHeartbeats 4000000 in
theorem mj_sim {ins : Instr} {r1 r2 r3 r4 r5 : Nat} (C : mj_Ctx p s m args meth c y cc nL B b D dA) (hok : mj_ok y cc pc (ins, r1, r2, r3, r4, r5) = true) {pc' : Nat} {loc' : mj_L} {st' : List Value} {h' : mj_H} (hs : mj_step ins r1 r2 r3 mj_new pc loc st h = some (pc', loc', st', h')) (hr : mj_Rel B b D dA s nL n0 s0 loc h ls H locs cells slots)
    (hcl : h'.length ≤ n0 + R.cells) (hsl : mj_sl h' ≤ s0 + R.slots)
    (k : ∀ (ls' : Array Slot) (H' : Heap) (locs' : List Loc) (cells' slots' : Nat), mj_Rel B b D dA s nL n0 s0 loc' h' ls' H' locs' cells' slots' → W p l e R s m args below meth c H' locs' cells' slots' Q (F0 m pc' ls' (st'.map (mj_rv B b)))) :
    W p l e R s m args below meth c H locs cells slots Q (F0 m pc ls (st.map (mj_rv B b))) := by
  cases ins
  case iadd  =>
    simp only [mj_ok, Bool.and_eq_true, decide_eq_true_eq] at hok
    exact mj_s_iadd C hok.1 hok.2 hs hr hcl hsl k
  case isub  =>
    simp only [mj_ok, Bool.and_eq_true, decide_eq_true_eq] at hok
    exact mj_s_isub C hok.1 hok.2 hs hr hcl hsl k
  case imul  =>
    simp only [mj_ok, Bool.and_eq_true, decide_eq_true_eq] at hok
    exact mj_s_imul C hok.1 hok.2 hs hr hcl hsl k
  case ineg  =>
    simp only [mj_ok, Bool.and_eq_true, decide_eq_true_eq] at hok
    exact mj_s_ineg C hok.1 hok.2 hs hr hcl hsl k
  case iand  =>
    simp only [mj_ok, Bool.and_eq_true, decide_eq_true_eq] at hok
    exact mj_s_iand C hok.1 hok.2 hs hr hcl hsl k
  case ishr  =>
    simp only [mj_ok, Bool.and_eq_true, decide_eq_true_eq] at hok
    exact mj_s_ishr C hok.1 hok.2 hs hr hcl hsl k
  case iushr  =>
    simp only [mj_ok, Bool.and_eq_true, decide_eq_true_eq] at hok
    exact mj_s_iushr C hok.1 hok.2 hs hr hcl hsl k
  case ladd  =>
    simp only [mj_ok, Bool.and_eq_true, decide_eq_true_eq] at hok
    exact mj_s_ladd C hok.1 hok.2 hs hr hcl hsl k
  case lsub  =>
    simp only [mj_ok, Bool.and_eq_true, decide_eq_true_eq] at hok
    exact mj_s_lsub C hok.1 hok.2 hs hr hcl hsl k
  case lmul  =>
    simp only [mj_ok, Bool.and_eq_true, decide_eq_true_eq] at hok
    exact mj_s_lmul C hok.1 hok.2 hs hr hcl hsl k
  case lneg  =>
    simp only [mj_ok, Bool.and_eq_true, decide_eq_true_eq] at hok
    exact mj_s_lneg C hok.1 hok.2 hs hr hcl hsl k
  case land  =>
    simp only [mj_ok, Bool.and_eq_true, decide_eq_true_eq] at hok
    exact mj_s_land C hok.1 hok.2 hs hr hcl hsl k
  case lor  =>
    simp only [mj_ok, Bool.and_eq_true, decide_eq_true_eq] at hok
    exact mj_s_lor C hok.1 hok.2 hs hr hcl hsl k
  case lshl  =>
    simp only [mj_ok, Bool.and_eq_true, decide_eq_true_eq] at hok
    exact mj_s_lshl C hok.1 hok.2 hs hr hcl hsl k
  case lcmp  =>
    simp only [mj_ok, Bool.and_eq_true, decide_eq_true_eq] at hok
    exact mj_s_lcmp C hok.1 hok.2 hs hr hcl hsl k
  case i2l  =>
    simp only [mj_ok, Bool.and_eq_true, decide_eq_true_eq] at hok
    exact mj_s_i2l C hok.1 hok.2 hs hr hcl hsl k
  case l2i  =>
    simp only [mj_ok, Bool.and_eq_true, decide_eq_true_eq] at hok
    exact mj_s_l2i C hok.1 hok.2 hs hr hcl hsl k
  case i2b  =>
    simp only [mj_ok, Bool.and_eq_true, decide_eq_true_eq] at hok
    exact mj_s_i2b C hok.1 hok.2 hs hr hcl hsl k
  case i2f  =>
    simp only [mj_ok, Bool.and_eq_true, decide_eq_true_eq] at hok
    exact mj_s_i2f C hok.1 hok.2 hs hr hcl hsl k
  case i2d  =>
    simp only [mj_ok, Bool.and_eq_true, decide_eq_true_eq] at hok
    exact mj_s_i2d C hok.1 hok.2 hs hr hcl hsl k
  case dcmp op =>
    simp only [mj_ok, Bool.and_eq_true, decide_eq_true_eq] at hok
    exact mj_s_dcmp C hok.1 hok.2 hs hr hcl hsl k
  case idiv  =>
    simp only [mj_ok, Bool.and_eq_true, decide_eq_true_eq] at hok
    exact mj_s_idiv C hok.1 hok.2 hs hr hcl hsl k
  case irem  =>
    simp only [mj_ok, Bool.and_eq_true, decide_eq_true_eq] at hok
    exact mj_s_irem C hok.1 hok.2 hs hr hcl hsl k
  case ldiv  =>
    simp only [mj_ok, Bool.and_eq_true, decide_eq_true_eq] at hok
    exact mj_s_ldiv C hok.1 hok.2 hs hr hcl hsl k
  case lrem  =>
    simp only [mj_ok, Bool.and_eq_true, decide_eq_true_eq] at hok
    exact mj_s_lrem C hok.1 hok.2 hs hr hcl hsl k
  case fdiv  =>
    simp only [mj_ok, Bool.and_eq_true, decide_eq_true_eq] at hok
    exact mj_s_fdiv C hok.1 hok.2 hs hr hcl hsl k
  case ddiv  =>
    simp only [mj_ok, Bool.and_eq_true, decide_eq_true_eq] at hok
    exact mj_s_ddiv C hok.1 hok.2 hs hr hcl hsl k
  case f2d  =>
    simp only [mj_ok, Bool.and_eq_true, decide_eq_true_eq] at hok
    exact mj_s_f2d C hok.1 hok.2 hs hr hcl hsl k
  case iconst n =>
    simp only [mj_ok, Bool.and_eq_true, decide_eq_true_eq] at hok
    exact mj_s_iconst C hok.1 hok.2 hs hr hcl hsl k
  case lconst n =>
    simp only [mj_ok, Bool.and_eq_true, decide_eq_true_eq] at hok
    exact mj_s_lconst C hok.1 hok.2 hs hr hcl hsl k
  case bipush n =>
    simp only [mj_ok, Bool.and_eq_true, decide_eq_true_eq] at hok
    exact mj_s_bipush C hok.1 hok.2 hs hr hcl hsl k
  case sipush n =>
    simp only [mj_ok, Bool.and_eq_true, decide_eq_true_eq] at hok
    exact mj_s_sipush C hok.1 hok.2 hs hr hcl hsl k
  case iload n =>
    simp only [mj_ok, Bool.and_eq_true, decide_eq_true_eq] at hok
    exact mj_s_iload C hok.1 hok.2 hs hr hcl hsl k
  case iload_n n =>
    simp only [mj_ok, Bool.and_eq_true, decide_eq_true_eq] at hok
    exact mj_s_iload_n C hok.1 hok.2 hs hr hcl hsl k
  case lload n =>
    simp only [mj_ok, Bool.and_eq_true, decide_eq_true_eq] at hok
    exact mj_s_lload C hok.1 hok.2 hs hr hcl hsl k
  case lload_n n =>
    simp only [mj_ok, Bool.and_eq_true, decide_eq_true_eq] at hok
    exact mj_s_lload_n C hok.1 hok.2 hs hr hcl hsl k
  case dload n =>
    simp only [mj_ok, Bool.and_eq_true, decide_eq_true_eq] at hok
    exact mj_s_dload C hok.1 hok.2 hs hr hcl hsl k
  case dload_n n =>
    simp only [mj_ok, Bool.and_eq_true, decide_eq_true_eq] at hok
    exact mj_s_dload_n C hok.1 hok.2 hs hr hcl hsl k
  case aload n =>
    simp only [mj_ok, Bool.and_eq_true, decide_eq_true_eq] at hok
    exact mj_s_aload C hok.1 hok.2 hs hr hcl hsl k
  case aload_n n =>
    simp only [mj_ok, Bool.and_eq_true, decide_eq_true_eq] at hok
    exact mj_s_aload_n C hok.1 hok.2 hs hr hcl hsl k
  case istore n =>
    simp only [mj_ok, Bool.and_eq_true, decide_eq_true_eq] at hok
    exact mj_s_istore C hok.1 hok.2 hs hr hcl hsl k
  case istore_n n =>
    simp only [mj_ok, Bool.and_eq_true, decide_eq_true_eq] at hok
    exact mj_s_istore_n C hok.1 hok.2 hs hr hcl hsl k
  case astore n =>
    simp only [mj_ok, Bool.and_eq_true, decide_eq_true_eq] at hok
    exact mj_s_astore C hok.1 hok.2 hs hr hcl hsl k
  case astore_n n =>
    simp only [mj_ok, Bool.and_eq_true, decide_eq_true_eq] at hok
    exact mj_s_astore_n C hok.1 hok.2 hs hr hcl hsl k
  case lstore n =>
    simp only [mj_ok, Bool.and_eq_true, decide_eq_true_eq] at hok
    exact mj_s_lstore C hok.1 hok.2 hs hr hcl hsl k
  case lstore_n n =>
    simp only [mj_ok, Bool.and_eq_true, decide_eq_true_eq] at hok
    exact mj_s_lstore_n C hok.1 hok.2 hs hr hcl hsl k
  case dstore n =>
    simp only [mj_ok, Bool.and_eq_true, decide_eq_true_eq] at hok
    exact mj_s_dstore C hok.1 hok.2 hs hr hcl hsl k
  case dstore_n n =>
    simp only [mj_ok, Bool.and_eq_true, decide_eq_true_eq] at hok
    exact mj_s_dstore_n C hok.1 hok.2 hs hr hcl hsl k
  case iinc n z =>
    simp only [mj_ok, Bool.and_eq_true, decide_eq_true_eq] at hok
    exact mj_s_iinc C hok.1 hok.2 hs hr hcl hsl k
  case goto off =>
    simp only [mj_ok, Bool.and_eq_true, decide_eq_true_eq] at hok
    exact mj_s_goto C hok.1 hok.2 hs hr hcl hsl k
  case ifCond cd off =>
    simp only [mj_ok, Bool.and_eq_true, decide_eq_true_eq] at hok
    exact mj_s_ifCond C hok.1 hok.2 hs hr hcl hsl k
  case if_icmp cd off =>
    simp only [mj_ok, Bool.and_eq_true, decide_eq_true_eq] at hok
    exact mj_s_if_icmp C hok.1 hok.2 hs hr hcl hsl k
  case dup  =>
    simp only [mj_ok, Bool.and_eq_true, decide_eq_true_eq] at hok
    exact mj_s_dup C hok.1 hok.2 hs hr hcl hsl k
  case dup2  =>
    simp only [mj_ok, Bool.and_eq_true, decide_eq_true_eq] at hok
    exact mj_s_dup2 C hok.1 hok.2 hs hr hcl hsl k
  case pop  =>
    simp only [mj_ok, Bool.and_eq_true, decide_eq_true_eq] at hok
    exact mj_s_pop C hok.1 hok.2 hs hr hcl hsl k
  case pop2  =>
    simp only [mj_ok, Bool.and_eq_true, decide_eq_true_eq] at hok
    exact mj_s_pop2 C hok.1 hok.2 hs hr hcl hsl k
  case ldc i =>
    simp only [mj_ok, Bool.and_eq_true, decide_eq_true_eq] at hok
    exact mj_s_ldc C hok.1 hok.2 hs hr hcl hsl k
  case ldc_w i =>
    simp only [mj_ok, Bool.and_eq_true, decide_eq_true_eq] at hok
    exact mj_s_ldc_w C hok.1 hok.2 hs hr hcl hsl k
  case ldc2_w i =>
    simp only [mj_ok, Bool.and_eq_true, decide_eq_true_eq] at hok
    exact mj_s_ldc2_w C hok.1 hok.2 hs hr hcl hsl k
  case getfield i =>
    simp only [mj_ok, Bool.and_eq_true, decide_eq_true_eq] at hok
    exact mj_s_getfield C hok.1 hok.2 hs hr hcl hsl k
  case putfield i =>
    simp only [mj_ok, Bool.and_eq_true, decide_eq_true_eq] at hok
    exact mj_s_putfield C hok.1 hok.2 hs hr hcl hsl k
  case newarray i =>
    simp only [mj_ok, Bool.and_eq_true, decide_eq_true_eq] at hok
    exact mj_s_newarray C hok.1 hok.2 hs hr hcl hsl k
  case anewarray i =>
    simp only [mj_ok, Bool.and_eq_true, decide_eq_true_eq] at hok
    exact mj_s_anewarray C hok.1 hok.2 hs hr hcl hsl k
  case new i =>
    simp only [mj_ok, Bool.and_eq_true, decide_eq_true_eq] at hok
    exact mj_s_new C hok.1 hok.2 hs hr hcl hsl k
  case arraylength  =>
    simp only [mj_ok, Bool.and_eq_true, decide_eq_true_eq] at hok
    exact mj_s_arraylength C hok.1 hok.2 hs hr hcl hsl k
  case iaload  =>
    simp only [mj_ok, Bool.and_eq_true, decide_eq_true_eq] at hok
    exact mj_s_iaload C hok.1 hok.2 hs hr hcl hsl k
  case laload  =>
    simp only [mj_ok, Bool.and_eq_true, decide_eq_true_eq] at hok
    exact mj_s_laload C hok.1 hok.2 hs hr hcl hsl k
  case baload  =>
    simp only [mj_ok, Bool.and_eq_true, decide_eq_true_eq] at hok
    exact mj_s_baload C hok.1 hok.2 hs hr hcl hsl k
  case aaload  =>
    simp only [mj_ok, Bool.and_eq_true, decide_eq_true_eq] at hok
    exact mj_s_aaload C hok.1 hok.2 hs hr hcl hsl k
  case iastore  =>
    simp only [mj_ok, Bool.and_eq_true, decide_eq_true_eq] at hok
    exact mj_s_iastore C hok.1 hok.2 hs hr hcl hsl k
  case lastore  =>
    simp only [mj_ok, Bool.and_eq_true, decide_eq_true_eq] at hok
    exact mj_s_lastore C hok.1 hok.2 hs hr hcl hsl k
  case bastore  =>
    simp only [mj_ok, Bool.and_eq_true, decide_eq_true_eq] at hok
    exact mj_s_bastore C hok.1 hok.2 hs hr hcl hsl k
  case aastore  =>
    simp only [mj_ok, Bool.and_eq_true, decide_eq_true_eq] at hok
    exact mj_s_aastore C hok.1 hok.2 hs hr hcl hsl k
  case multianewarray i dm =>
    simp only [mj_ok, Bool.and_eq_true, decide_eq_true_eq] at hok
    exact mj_s_multi C hok.1 hok.2 hs hr hcl hsl k
  case tableswitch d lo hi os =>
    simp only [mj_ok, decide_eq_true_eq] at hok
    exact mj_s_switch C hok hs hr k
  all_goals (simp only [mj_step] at hs; cases hs)
end MJC
end
section
/-! The small machine's loop: returns, throws, calls, catches; and that the machine does it. -/
section MJT
variable {p : Program} {l : Launch} {e : Env} {R : Room} {s : State} {m : MethodId} {args : Array Value} {below : List Frame} {meth : Method} {c : Code} {H : Heap} {locs : List Loc} {cells slots : Nat} {Q : State → Prop}
variable {mc ms : Nat} {free : Addr → Prop} {A0 A1 : Nat → Prop} {H0 : Heap} {a : Array Value} {ls : Array Slot} {st0 rest : List Value}
variable {Qc : Array Value → State → Outcome → State → Prop} {XC : String → State → State → Prop}
/-- 'throw new E()' (follows vx_throw0), with the size of the heap behind it -/
theorem mj_throw0 {cc : ByteArray} {pc : Nat} (hexec : p.tables.exec = Jvm.exec) (hb : c.code = cc) (hl : l.stackTraces = false) {own cls : String} {names : List String} {ik ic mc ms : Nat} {A : Nat → Prop}
    (hown : s.vm.findClass own = some m.cls) (hcls : Bundle.fit cls = true) (hnames : ∀ n ∈ names, Bundle.fit n = true)
    (hk : (Cond.classLink own ik cls).before args s = true) (hini : (Cond.initialized cls).before args s = true) (hat : ∀ w ∈ vx_at0 own ic cls names, w.before args s = true)
    (hgood : ∀ w ∈ Cond.classLink own ik cls :: Cond.initialized cls :: vx_at0 own ic cls names, vx_ot w = true)
    (hU : vx_Zq Bundle.tN "UNASSIGNED_STACK" Bundle.steD A s s.heap) (hN : vx_Zq Bundle.tN "SUPPRESSED_SENTINEL" Bundle.listD A s s.heap) (hS : va_S A s.heap H locs) (hsize : ls.size = c.maxLocals)
    (d0 : decode cc pc = .ok (.new ik, 3)) (d3 : decode cc (pc + 3) = .ok (.dup, 1)) (d4 : decode cc (pc + 4) = .ok (.invokespecial ic, 3)) (d7 : decode cc (pc + 7) = .ok (.athrow, 1))
    (hout : ∀ x ∈ c.exceptionTable.toList, covers x (pc + 7) = false)
    (hRframes : names.length + 3 < R.frames) (hRlocals : (rest.map fun v => v.category).sum + (13 * (names.length + 1) + 42) ≤ R.locals) (hRcells : cells + 1 ≤ R.cells) (hRslots : slots + 6 ≤ R.slots) (hlocks : meth.locks = false)
    (hx : ∀ t : State, s.vm.Alike t.vm → t.heap.size = H.size + 1 → (∀ q : Nat, q < H.size → t.heap[q]? = H[q]?) → XC cls s t)
    (hf : ∀ z ∈ locs, free z.base) (hc : cells + 1 ≤ mc) (hs : slots + 6 ≤ ms) :
    W p l e R s m args below meth c H locs cells slots (vx_MQ below Qc XC args s mc ms free) (F0 m pc ls rest) := by
  intro T hT X
  have htr : e.platform.stackTraces = false := (show e.platform.stackTraces = l.stackTraces by rw [X.admits.platform]).trans hl
  have Y := vx_rebase X (R' := { frames := R.frames, locals := R.locals, cells := 1, slots := 6 }) (Nat.le_refl _) (Nat.le_refl _) hRcells hRslots
  obtain ⟨s', hA⟩ : ∃ z, z = (T.setVm s.vm).setFrames (.invoking m args :: below) := ⟨_, rfl⟩
  rw [← hA] at Y
  have hvm : s'.vm = s.vm := by rw [hA]; rfl
  have hhp : s'.heap = H := by rw [hA]; exact hT
  have hW0 : s.WarmedH s'.vm := by rw [hvm]; exact State.WarmedH.refl s
  have hat' : ∀ w ∈ vx_at0 own ic cls names, w.before args s' = true := fun w hw => vx_ot_at hW0 hvm.symm (hgood w (List.mem_cons_of_mem _ (List.mem_cons_of_mem _ hw))) (hat w hw)
  have hk' : (Cond.classLink own ik cls).before args s' = true := vx_ot_at hW0 hvm.symm (hgood _ List.mem_cons_self) hk
  have hini' : (Cond.initialized cls).before args s' = true := vx_ot_at hW0 hvm.symm (hgood _ (List.mem_cons_of_mem _ List.mem_cons_self)) hini
  have hU' : vx_Zq Bundle.tN "UNASSIGNED_STACK" Bundle.steD A s' s'.heap := by rw [hhp]; exact vx_Zq.moved hW0.alike (hU.kept hS.2.1)
  have hN' : vx_Zq Bundle.tN "SUPPRESSED_SENTINEL" Bundle.listD A s' s'.heap := by rw [hhp]; exact vx_Zq.moved hW0.alike (hN.kept hS.2.1)
  have h : ∀ w ∈ Bundle.ownAtoms0 own ic cls names, w.before args s' = true := vx_own hat' (vx_isRefq hU'.1) (vx_isRefq hN'.1) hU'.2.word hN'.2.word
  have hown' : s'.vm.findClass own = some m.cls := by rw [hvm]; exact hown
  have hins : (Cond.instantiable cls 6).before args s' = true := h _ (by simp [Bundle.ownAtoms0])
  obtain ⟨vm₁, cX, kX, hfX, hkX, -, -, X₁, st1⟩ := Y.newCold hexec (own := own) (C := cls) (index := ik) (n := 6) hown' hk' hins hini'
    (g := F0 m pc ls rest) rfl (by rw [hb]; exact d0) (Nat.le_refl _) (Nat.le_refl _)
  generalize hT1 : (T.setVm vm₁).pushCell { cls := cX, slots := kX.instanceTypes.map defaultValue, vm := .none } = T1 at X₁ st1
  have hcat : (Value.ref T.heap.size).category = 1 := rfl
  have hcellA : T1.heap[T.heap.size]? = some (freshCell cX kX) := by rw [← hT1]; exact State.heap_pushCell_size _ _
  have d3' : decode c.code (pc + 3) = .ok (.dup, 1) := by rw [hb]; exact d3
  obtain ⟨U, hsteps, hrun, hend, hW, hsame, ce, hce, hO⟩ := X₁.ctorThrow0 hexec htr (own := own) (cls := cls) (names := names) (ic := ic) hown' hcls hnames h (fun x hx => nomatch hx) hfX hkX hcellA (by rw [hhp, hT]; exact Nat.le_refl _)
    (g := { method := m, pc := pc + 4, locals := ls, stack := .ref T.heap.size :: .ref T.heap.size :: rest, locked := none }) rfl hsize rfl rfl (rest := rest) rfl
    (by rw [hb]; exact d4) (by rw [hb]; exact d7) hout hRframes (by simp only [List.map_cons, List.sum_cons, hcat]; omega) hlocks
  obtain ⟨f1, f2⟩ := vx_frame hsame
  rw [hhp] at f1 f2
  have hz1 : U.heap.size = H.size + 1 := by
    have h3 : U.heap.size ≤ s'.heap.size + _ := hsame.2.2.1
    have h4 := (Array.getElem?_eq_some_iff.mp hce).1
    rw [hhp] at h3
    rw [hT] at h4
    have h5 : U.heap.size ≤ H.size + 1 := by simpa using h3
    omega
  have hWs : s.WarmedH U.vm := State.WarmedH.trans hW0 hW
  have hcl : s.vm.findClass cls = some ce.cls := by
    have h9 := hO.cls
    rw [hvm] at h9
    exact h9
  have hall : s.sameButNew ({ U with vm := s.vm } : State) locs mc ms := by
    subst hA
    obtain ⟨e1, e2⟩ := hsame
    rw [State.setFrames_setFrames] at e1
    have h2 : (T.setVm s.vm).sameButNew ({ U with vm := s.vm } : State) [] (0 + 1) (0 + 6) := ⟨e1, e2⟩
    have h3 := X.same.trans h2
    rw [List.append_nil] at h3
    exact h3.mono hc hs
  refine ⟨U, ?_, .threw T.heap.size, hrun, hend, Or.inr ⟨T.heap.size, rfl, cls, ce, locs, hx U hWs.alike hz1 (fun q hq => f2 q hq (fun z hz => nomatch hz)), hce, hO.vm, hcl, hWs, hall, hf⟩⟩
  refine st1 _ ?_
  show Steps p.tables e below (T1.setTop { method := m, pc := pc + 3, locals := ls, stack := .ref T.heap.size :: rest, locked := none }) _
  jvm_step X₁.here [X₁.here.top, hexec, d3', Value.category]
  exact hsteps
end MJT

/-- a method: its name, bytes, room for locals, what it returns, its instructions, its handlers (start, end, handler, class; the exception's number, the local, where it goes on), its kind (0 static, 1 virtual, 2 a constructor) and the places of its words -/
abbrev mj_M : Type := MethodName × ByteArray × Nat × Option FieldType × (Nat → Option mj_I) × List (Nat × Nat × Nat × Nat × Nat × Nat × Nat) × Nat × Nat × Nat × Nat × Nat
def mj_exc (i : Nat) : String := match i with
  | 0 => "java/lang/IndexOutOfBoundsException"
  | 1 => "java/lang/IllegalStateException"
  | 2 => "java/lang/IllegalArgumentException"
  | 3 => "java/lang/ArithmeticException"
  | _ => "java/util/NoSuchElementException"
def mj_cat (st : List Value) : Nat := (st.map fun v => v.category).sum
def mj_kill (loc : mj_L) (k : Nat) : mj_L := (mj_st1 loc k (.int 0)).set k none
def mj_find (hs : List (Nat × Nat × Nat × Nat × Nat × Nat × Nat)) (pc i : Nat) : Option (Nat × Nat) := match hs with
  | [] => none
  | (a, b, _, _, x, k, nx) :: t => if a ≤ pc ∧ pc < b ∧ x = i then some (k, nx) else mj_find t pc i
def mj_isint (v : Value) : Bool := match v with
  | .int _ => true
  | _ => false
def mj_islong (v : Value) : Bool := match v with
  | .long _ => true
  | _ => false
def mj_cpok (t : Nat) (f : Nat → Value) (sp n : Nat) : Bool := (List.range n).all (fun i => match t with
  | 0 => mj_isint (f (sp + i))
  | _ => mj_islong (f (sp + i)))
/-- the methods that are not walked: max, min, arraycopy, Object() -/
def mj_prim (r3 : Nat) (st : List Value) (h : mj_H) : Option (List Value × mj_H) := match r3 with
  | 2 => match st with
    | .int y :: .int x :: st => if mj_cat st ≤ 20 then some (.int (if x < y then y else x) :: st, h) else none
    | _ => none
  | 3 => match st with
    | .int y :: .int x :: st => if mj_cat st ≤ 20 then some (.int (if y < x then y else x) :: st, h) else none
    | _ => none
  | 4 => match st with
    | .int n :: .int dp :: .ref a1 :: .int sp :: .ref a0 :: st => match h[a0]? with
      | some (.inl (t0, n0, f)) => match h[a1]? with
        | some (.inl (t1, n1, g)) => if mj_cat st ≤ 20 ∧ t0 = t1 ∧ (t0 = 0 ∨ t0 = 1) ∧ 0 ≤ sp ∧ 0 ≤ dp ∧ 0 ≤ n ∧ sp.toNatClampNeg + n.toNatClampNeg ≤ n0 ∧ dp.toNatClampNeg + n.toNatClampNeg ≤ n1 ∧ mj_cpok t0 f sp.toNatClampNeg n.toNatClampNeg = true then some (st, h.set a1 (.inl (t1, n1, va_cpy f g sp.toNatClampNeg dp.toNatClampNeg n.toNatClampNeg))) else none
        | _ => none
      | _ => none
    | _ => none
  | 5 => match st with
    | .ref _ :: st => if mj_cat st ≤ 20 then some (st, h) else none
    | _ => none
  | _ => none
def mj_retv (ins : Instr) (ret : Option FieldType) (st : List Value) : Option (Option Value) := match ins with
  | .ireturn => match st with
    | [.int v] => match ret with
      | some .int => some (some (.int v))
      | some .boolean => if v = 0 ∨ v = 1 then some (some (.int v)) else none
      | _ => none
    | _ => none
  | .lreturn => match st with
    | [.long v] => match ret with
      | some .long => some (some (.long v))
      | _ => none
    | _ => none
  | .freturn => match st with
    | [.float v] => match ret with
      | some .float => some (some (.float v))
      | _ => none
    | _ => none
  | .dreturn => match st with
    | [.double v] => match ret with
      | some .double => some (some (.double v))
      | _ => none
    | _ => none
  | .areturn => match st with
    | [.ref v] => match ret with
      | some (.object _) => some (some (.ref v))
      | some (.array _) => some (some (.ref v))
      | _ => none
    | _ => none
  | .return_ => match st with
    | [] => match ret with
      | none => some none
      | _ => none
    | _ => none
  | _ => none
/-- which kind of an instruction it is: 1 a return, 2 a throw, 3 a call of a method of the table, 4 a call of another one, 0 all else -/
def mj_kind (ins : Instr) (r3 : Nat) : Nat := match ins with
  | .ireturn => 1
  | .lreturn => 1
  | .freturn => 1
  | .dreturn => 1
  | .areturn => 1
  | .return_ => 1
  | .new _ => if r3 = 1 then 2 else 0
  | .invokestatic _ => if r3 ≤ 1 then 3 else 4
  | .invokevirtual _ => if r3 ≤ 1 then 3 else 4
  | .invokespecial _ => if r3 ≤ 1 then 3 else 4
  | _ => 0
/-- the receiver of a call by invokevirtual is an object of that class, of invokespecial an object -/
def mj_recv (ins : Instr) (r2 r5 : Nat) (st : List Value) (h : mj_H) : Bool := match ins with
  | .invokestatic _ => true
  | .invokevirtual _ => match r2, st.drop (r2 - 1) with
    | 0, _ => false
    | _, .ref a :: _ => match h[a]? with
      | some (.inr (ci, _)) => decide (ci = r5)
      | _ => false
    | _, _ => false
  | _ => match r2, st.drop (r2 - 1) with
    | 0, _ => false
    | _, .ref _ :: _ => true
    | _, _ => false
def mj_loop (call : Nat → List Value → mj_H → Option mj_R) (M : mj_M) : Nat → Nat → mj_L → List Value → mj_H → Option mj_R
  | 0, _, _, _, _ => none
  | F + 1, pc, loc, st, h =>
    match M.2.2.2.2.1 pc with
    | none => none
    | some (ins, r1, r2, r3, _, r5) =>
      match mj_kind ins r3 with
      | 0 => match mj_step ins r1 r2 r3 mj_new pc loc st h with
        | some (pc', loc', st', h') => mj_loop call M F pc' loc' st' h'
        | none => none
      | 1 => match mj_retv ins M.2.2.2.1 st with
        | some v => some (.inl v, h)
        | none => none
      | 2 => if M.2.2.2.2.2.1 = [] ∧ mj_cat st ≤ 8 then some (.inr r1, h ++ [.inr (99, [.null, .null, .null, .null, .null, .null])]) else none
      | 3 => if r2 ≤ st.length ∧ mj_cat (st.drop r2) ≤ 8 ∧ mj_recv ins r2 r5 st h = true then
          match call r1 (st.take r2).reverse h with
          | some (.inl v, h') => mj_loop call M F (pc + 3) loc (v.toList ++ st.drop r2) h'
          | some (.inr i, h') => match M.2.2.2.2.2.1 with
            | [] => some (.inr i, h')
            | hs => match mj_find hs pc i with
              | some (k, nx) => if k < loc.length then mj_loop call M F nx (mj_kill loc k) [] h' else none
              | none => none
          | none => none
        else none
      | _ => match mj_prim r3 st h with
        | some (st', h') => mj_loop call M F (pc + 3) loc st' h'
        | none => none
def mj_loc0 (n : Nat) (as : List Value) : mj_L := match as with
  | [] => List.replicate n none
  | v :: t => if v.category = 2 then some v :: none :: mj_loc0 (n - 2) t else some v :: mj_loc0 (n - 1) t
/-- calls at most d deep, F steps a call -/
def mj_run (P : List mj_M) (F : Nat) : Nat → Nat → List Value → mj_H → Option mj_R
  | 0 => fun _ _ _ => none
  | d + 1 => fun j as h => match P[j]? with
    | none => none
    | some M => if (mj_loc0 M.2.2.1 as).length = M.2.2.1 then mj_loop (mj_run P F d) M F 0 (mj_loc0 M.2.2.1 as) [] h else none
end
section
/-! Nothing shrinks; returns; the methods that are not walked. -/
theorem mj_sl_app (a b : mj_H) : mj_sl (a ++ b) = mj_sl a + mj_sl b := by simp [mj_sl]
set_option maxHeartbeats 4000000 in
theorem mj_step_mono {ins : Instr} {r1 r2 r3 : Nat} {fl : Nat → List Value} {pc : Nat} {loc : mj_L} {st : List Value} {h : mj_H} {pc' : Nat} {loc' : mj_L} {st' : List Value} {h' : mj_H} (hs : mj_step ins r1 r2 r3 fl pc loc st h = some (pc', loc', st', h')) : h.length ≤ h'.length ∧ mj_sl h ≤ mj_sl h' := by
  cases ins <;> simp only [mj_step] at hs <;> (try cases hs) <;> (try exact ⟨Nat.le_refl _, Nat.le_refl _⟩) <;> (try (rw [List.length_append, mj_sl_app]; exact ⟨Nat.le_add_right _ _, Nat.le_add_right _ _⟩)) <;> (try (obtain ⟨v, hv, he⟩ := Option.map_eq_some_iff.mp hs; cases he; exact ⟨Nat.le_refl _, Nat.le_refl _⟩)) <;>
    (repeat' split at hs) <;> (try cases hs) <;> first
      | exact ⟨Nat.le_refl _, Nat.le_refl _⟩
      | (rw [List.length_append, mj_sl_app]; exact ⟨Nat.le_add_right _ _, Nat.le_add_right _ _⟩)
      | (refine ⟨by rw [List.length_set]; exact Nat.le_refl _, ?_⟩
         rw [mj_sl_set (by assumption) (by simp [mj_slot])]
         exact Nat.le_refl _)
theorem mj_prim_mono {r3 : Nat} {st : List Value} {h : mj_H} {st' : List Value} {h' : mj_H} (hs : mj_prim r3 st h = some (st', h')) : h.length ≤ h'.length ∧ mj_sl h ≤ mj_sl h' := by
  unfold mj_prim at hs
  (repeat' split at hs) <;> (try cases hs) <;> first
    | exact ⟨Nat.le_refl _, Nat.le_refl _⟩
    | (refine ⟨by rw [List.length_set]; exact Nat.le_refl _, ?_⟩
       rw [mj_sl_set (by assumption) (by simp [mj_slot])]
       exact Nat.le_refl _)
theorem mj_loop_mono {call : Nat → List Value → mj_H → Option mj_R} (hcall : ∀ j as h r, call j as h = some r → h.length ≤ r.2.length ∧ mj_sl h ≤ mj_sl r.2) {M : mj_M} : ∀ {F pc : Nat} {loc : mj_L} {st : List Value} {h : mj_H} {r : mj_R}, mj_loop call M F pc loc st h = some r → h.length ≤ r.2.length ∧ mj_sl h ≤ mj_sl r.2
  | 0, _, _, _, _, _, hs => by cases hs
  | F + 1, pc, loc, st, h, r, hs => by
    unfold mj_loop at hs
    split at hs
    · cases hs
    · split at hs
      · split at hs
        · rename_i h1
          have h2 := mj_step_mono h1
          have h3 := mj_loop_mono hcall hs
          exact ⟨Nat.le_trans h2.1 h3.1, Nat.le_trans h2.2 h3.2⟩
        · cases hs
      · split at hs
        · cases hs; exact ⟨Nat.le_refl _, Nat.le_refl _⟩
        · cases hs
      · split at hs
        · cases hs
          rw [List.length_append, mj_sl_app]; exact ⟨Nat.le_add_right _ _, Nat.le_add_right _ _⟩
        · cases hs
      · split at hs
        · split at hs
          · rename_i h1
            have h2 := hcall _ _ _ _ h1
            have h3 := mj_loop_mono hcall hs
            exact ⟨Nat.le_trans h2.1 h3.1, Nat.le_trans h2.2 h3.2⟩
          · rename_i h1
            have h2 := hcall _ _ _ _ h1
            split at hs
            · cases hs; exact h2
            · split at hs
              · split at hs
                · have h3 := mj_loop_mono hcall hs
                  exact ⟨Nat.le_trans h2.1 h3.1, Nat.le_trans h2.2 h3.2⟩
                · cases hs
              · cases hs
          · cases hs
        · cases hs
      · split at hs
        · rename_i h1
          have h2 := mj_prim_mono h1
          have h3 := mj_loop_mono hcall hs
          exact ⟨Nat.le_trans h2.1 h3.1, Nat.le_trans h2.2 h3.2⟩
        · cases hs
theorem mj_run_mono (P : List mj_M) (F : Nat) : ∀ (d j : Nat) (as : List Value) (h : mj_H) (r : mj_R), mj_run P F d j as h = some r → h.length ≤ r.2.length ∧ mj_sl h ≤ mj_sl r.2
  | 0, _, _, _, _, hs => by cases hs
  | d + 1, j, as, h, r, hs => by
    simp only [mj_run] at hs
    split at hs
    · cases hs
    · split at hs
      · exact mj_loop_mono (mj_run_mono P F d) hs
      · cases hs
theorem mj_w_math : (mj_inw (.static Lib.Math.max.name) && mj_inw (.static Lib.Math.min.name) && mj_inw (.initialized "java/lang/Math") && mj_inw (.code Lib.Math.max.name Lib.Math.max.code 2 (some .int)) && mj_inw (.code Lib.Math.min.name Lib.Math.min.code 2 (some .int))) = true := by decide +kernel
theorem mj_w_copy : (mj_inw (.native arraycopyName) && mj_inw (.static arraycopyName) && mj_inw (.initialized "java/lang/System")) = true := by decide +kernel
theorem mj_w_obj : (mj_inw (.instanceMethod Lib.objectInit) && mj_inw (.code Lib.objectInit ⟨#[0xb1]⟩ 1 none)) = true := by decide +kernel
section MJP
variable {p : Program} {l : Launch} {e : Env} {R : Room} {s : State} {m : MethodId} {args : Array Value} {below : List Frame} {meth : Method} {c : Code} {H : Heap} {locs : List Loc} {cells slots : Nat} {Q : State → Prop}
variable {y : MethodName} {cc : ByteArray} {nL B b n0 s0 : Nat} {D : va_G} {dA : Nat → ClassId} {pc : Nat} {loc : mj_L} {st : List Value} {h : mj_H} {ls : Array Slot}
theorem mj_sim_ret {ins : Instr} {v : Option Value} {ret : Option FieldType} {Qc : Array Value → State → Outcome → State → Prop} {XC : String → State → State → Prop} (hx : p.tables.exec = Jvm.exec) (hb : c.code = cc) (hlk : meth.locks = false) (hr : meth.sig.returnType = ret) (hd : decode cc pc = .ok (ins, 1)) (hs : mj_retv ins ret st = some v)
    (hq : ∀ t : State, t.heap = H → s.WarmedH t.vm → Qc args s (.returned (v.map (mj_rv B b))) t) (hf : ∀ q ∈ locs, B ≤ q.base) :
    W p l e R s m args below meth c H locs cells slots (vx_MQ below Qc XC args s cells slots (fun q => B ≤ q)) (F0 m pc ls (st.map (mj_rv B b))) := by
  cases ins <;> simp only [mj_retv] at hs <;> (repeat' split at hs) <;> (try cases hs)
  all_goals first
    | exact vx_ret (W.iret hx hb hr hq hf hd hlk)
    | exact vx_ret (W.lret hx hb hr hq hf hd hlk)
    | exact vx_ret (W.fret hx hb hr hq hf hd hlk)
    | exact vx_ret (W.dret hx hb hr hq hf hd hlk)
    | exact vx_ret (W.vret hx hb hr hq hf hd hlk)
    | exact vx_ret (W.aret hx hb hr (Or.inl ⟨_, rfl⟩) (Or.inr ⟨_, rfl⟩) hq hf hd hlk)
    | exact vx_ret (W.aret hx hb hr (Or.inr ⟨_, rfl⟩) (Or.inr ⟨_, rfl⟩) hq hf hd hlk)
    | (rename_i h0; exact vx_ret (W.zret hx hb hr (by rcases h0 with rfl | rfl <;> rfl) hq hf hd hlk))
theorem mj_cat_map (B b : Nat) (st : List Value) : ((st.map (mj_rv B b)).map fun v => v.category).sum = mj_cat st := by
  unfold mj_cat
  rw [List.map_map]
  congr 1
  apply List.map_congr_left
  intro v _
  exact mj_rv_cat B b v
/-- what a call of a method that is not walked was resolved to -/
def mj_okP (y : MethodName) (cc : ByteArray) (pc : Nat) (ins : Instr) (r3 r4 : Nat) : Bool := match ins with
  | .invokestatic i => decide (decode cc pc = .ok (.invokestatic i, 3)) && (match r3 with
    | 2 => mj_w r4 (.methodLink y.cls i Lib.Math.max.name)
    | 3 => mj_w r4 (.methodLink y.cls i Lib.Math.min.name)
    | 4 => mj_w r4 (.methodLink y.cls i arraycopyName)
    | _ => false)
  | .invokespecial i => decide (decode cc pc = .ok (.invokespecial i, 3)) && (match r3 with
    | 5 => mj_w r4 (.methodLink y.cls i Lib.objectInit)
    | _ => false)
  | _ => false
theorem mj_sim_prim {ins : Instr} {r3 r4 : Nat} (C : mj_Ctx p s m args meth c y cc nL B b D dA) (ho : mj_okP y cc pc ins r3 r4 = true) {st' : List Value} {h' : mj_H} (hs : mj_prim r3 st h = some (st', h')) (hr : mj_Rel B b D dA s nL n0 s0 loc h ls H locs cells slots) (hRf : 1 ≤ R.frames) (hRl : 100 ≤ R.locals) (hcl : h'.length ≤ n0 + R.cells) (hsl : mj_sl h' ≤ s0 + R.slots)
    (k : ∀ (ls' : Array Slot) (H' : Heap) (locs' : List Loc) (cells' slots' : Nat), mj_Rel B b D dA s nL n0 s0 loc h' ls' H' locs' cells' slots' → W p l e R s m args below meth c H' locs' cells' slots' Q (F0 m (pc + 3) ls' (st'.map (mj_rv B b)))) :
    W p l e R s m args below meth c H locs cells slots Q (F0 m pc ls (st.map (mj_rv B b))) := by
  obtain ⟨hx, hb, hml, hown, hts, hK, hB, hbB, hlk, hin⟩ := C
  have hw : ∀ {w : Jvm.Cond}, mj_inw w = true → w.before args s = true := fun h => hts _ (mj_inw_of h).1 (mj_inw_of h).2
  have hm := mj_w_math
  have hcp := mj_w_copy
  have hob := mj_w_obj
  simp only [Bool.and_eq_true] at hm hcp hob
  obtain ⟨⟨⟨⟨m1, m2⟩, m3⟩, m4⟩, m5⟩ := hm
  obtain ⟨⟨c1, c2⟩, c3⟩ := hcp
  obtain ⟨o1, o2⟩ := hob
  have hsz : c.maxLocals = ls.size := by rw [hml, hr.2.1.1]
  have hcc : cells ≤ R.cells := by
    have h1 := hr.2.2.2.1
    have h2 := (mj_prim_mono hs).1
    omega
  have hss : slots ≤ R.slots := by
    have h1 := hr.2.2.2.2
    have h2 := (mj_prim_mono hs).2
    omega
  unfold mj_prim at hs
  split at hs
  · split at hs
    · split at hs
      · rename_i hc0
        cases hs
        cases ins <;> simp only [mj_okP, Bool.and_eq_true, decide_eq_true_eq] at ho <;> (try exact absurd ho Bool.false_ne_true) <;> (try exact absurd ho.2 Bool.false_ne_true)
        exact va_mmax hx hb hsz hown (hts _ (mj_w_of ho.2).1 (mj_w_of ho.2).2) (hw m1) (hw m3) (hw m4) hRf (by rw [mj_cat_map]; omega) hcc hss ho.1 (k _ _ _ _ _ hr)
      · cases hs
    · cases hs
  · split at hs
    · split at hs
      · rename_i hc0
        cases hs
        cases ins <;> simp only [mj_okP, Bool.and_eq_true, decide_eq_true_eq] at ho <;> (try exact absurd ho Bool.false_ne_true) <;> (try exact absurd ho.2 Bool.false_ne_true)
        exact va_mmin hx hb hsz hown (hts _ (mj_w_of ho.2).1 (mj_w_of ho.2).2) (hw m2) (hw m3) (hw m5) hRf (by rw [mj_cat_map]; omega) hcc hss ho.1 (k _ _ _ _ _ hr)
      · cases hs
    · cases hs
  · split at hs
    · rename_i n dp a1 sp a0 st0
      split at hs
      · rename_i t0 n0' f he0
        split at hs
        · rename_i t1 n1 g he1
          split at hs
          · rename_i hcond
            obtain ⟨hc0, ht, ht01, hsp, hdp, hn, h4, h5, hall⟩ := hcond
            cases hs
            subst ht
            unfold mj_cpok at hall
            cases ins <;> simp only [mj_okP, Bool.and_eq_true, decide_eq_true_eq] at ho <;> (try exact absurd ho Bool.false_ne_true) <;> (try exact absurd ho.2 Bool.false_ne_true)
            have ht6 : t0 ≤ 6 := by rcases ht01 with rfl | rfl <;> decide
            have htn : t0 ≠ 100 := by rcases ht01 with rfl | rfl <;> decide
            have e0 := ((hr.1.2.2 _ _ he0).2 htn).2
            have e1 := ((hr.1.2.2 _ _ he1).2 htn).2
            have ha0 := hr.ne0 he1 (fun L xs h => by cases h; exact htn rfl)
            obtain ⟨-, k0, hk0, cm0, hkk0⟩ := (hK.2 t0 _ (mj_tys_at dA ht6)).1 n0' (fun j => mj_rv B b (f j))
            obtain ⟨-, k1, hk1, cm1, hkk1⟩ := (hK.2 t0 _ (mj_tys_at dA ht6)).1 n1 (fun j => mj_rv B b (g j))
            have nn : ∀ z : Int32, 0 ≤ z → z.toInt = (z.toNatClampNeg : Int) := by
              intro z hz
              have hz0 : (0 : Int) ≤ z.toInt := by simpa using Int32.le_iff_toInt_le.mp hz
              show z.toInt = ((z.toInt.toNat : Nat) : Int)
              omega
            intro T hT X
            obtain ⟨vm', X', step⟩ := X.arraycopy hx hown (hts _ (mj_w_of ho.2).1 (mj_w_of ho.2).2) (hw c1) (hw c2) (hw c3) (src := mj_ad B b a0) (dst := mj_ad B b a1) (srcPos := sp) (destPos := dp) (n := n) (by rw [hT]; exact e0) (by rw [hT]; exact e1)
              (fun _ h => by cases h) (fun _ h => by cases h) (fun h => by cases h) (fun h => by cases h) hk0 hk1 hkk0 hkk1 (by simp) (mj_not_lt hsp) (mj_not_lt hdp) (mj_not_lt hn)
              (by rw [nn sp hsp, nn n hn, arrV_size]; omega)
              (by rw [nn dp hdp, nn n hn, arrV_size]; omega)
              (fun vm₁ _ i hi => by
                have e : (arrV (dA t0) n0' (fun j => mj_rv B b (f j))).slots.getD (sp.toNatClampNeg + i) .null = mj_rv B b (f (sp.toNatClampNeg + i)) := by
                  rw [Array.getD_eq_getD_getElem?, arrV_read _ _ (by omega)]
                  rfl
                have h9 := List.all_eq_true.mp hall i (List.mem_range.mpr hi)
                rw [e]
                rcases ht01 with rfl | rfl
                · simp only [mj_isint] at h9
                  split at h9
                  · rename_i z hz
                    rw [hz]
                    exact ⟨rfl, trivial⟩
                  · cases h9
                · simp only [mj_islong] at h9
                  split at h9
                  · rename_i z hz
                    rw [hz]
                    exact ⟨rfl, trivial⟩
                  · cases h9)
              (g := F0 m pc ls (.int n :: .int dp :: .ref (mj_ad B b a1) :: .int sp :: .ref (mj_ad B b a0) :: st'.map (mj_rv B b))) rfl (by rw [hsz]) (rest := st'.map (mj_rv B b)) rfl (by rw [hb]; exact ho.1) hRf (by
                have h8 : nativeFrameWords "java/lang/System" "arraycopy" 5 ≤ 40 := by decide +kernel
                rw [mj_cat_map]
                show 2 * 0 + _ + _ ≤ _
                omega)
            have ec : copied (arrV (dA t0) n0' (fun j => mj_rv B b (f j))) (arrV (dA t0) n1 (fun j => mj_rv B b (g j))) sp dp n = arrV (dA t0) n1 (fun j => mj_rv B b (va_cpy f g sp.toNatClampNeg dp.toNatClampNeg n.toNatClampNeg j)) := va_copied (mj_rv B b) (dA t0) (dA t0) f g h4
            rw [ec] at X' step
            have hlt : mj_ad B b a1 < H.size := (Array.getElem?_eq_some_iff.mp e1).1
            generalize hcell : arrV (dA t0) n1 (fun j => mj_rv B b (va_cpy f g sp.toNatClampNeg dp.toNatClampNeg n.toNatClampNeg j)) = cel at X' step
            have hheap : ((T.setVm vm').setCell (mj_ad B b a1) cel).heap = H.setIfInBounds (mj_ad B b a1) cel := by rw [← hT]; rfl
            have oq : ∀ q : Nat, q ≠ mj_ad B b a1 → (H.setIfInBounds (mj_ad B b a1) cel)[q]? = H[q]? := fun q hq => by simp [Array.getElem?_setIfInBounds, Ne.symm hq]
            have hz : (H.setIfInBounds (mj_ad B b a1) cel).size = H.size := by simp
            have hat : mj_at B b D dA s (mj_ad B b a1) (.inl (t0, n1, va_cpy f g sp.toNatClampNeg dp.toNatClampNeg n.toNatClampNeg)) (H.setIfInBounds (mj_ad B b a1) cel) := ⟨fun h => absurd h htn, fun _ => ⟨ht6, by rw [hcell]; simp [Array.getElem?_setIfInBounds, hlt]⟩⟩
            have hrel := hr.putE (k := 0) hbB ha0 he1 (e1 := .inl (t0, n1, va_cpy f g sp.toNatClampNeg dp.toNatClampNeg n.toNatClampNeg)) rfl hat hz oq
            obtain ⟨t, a1', b1⟩ := k _ _ _ _ _ ⟨hrel.1, hrel.2.1, ⟨hrel.2.2.1.1, hrel.2.2.1.2.1, fun q hq => by
              rcases List.mem_append.mp hq with h | h
              · exact hr.2.2.1.2.2 q h
              · obtain ⟨z, -, hz⟩ := List.mem_map.mp h
                rw [← hz]
                exact mj_ad_ge ha0⟩, hrel.2.2.2⟩ _ hheap X'
            exact ⟨t, step t a1', b1⟩
          · cases hs
        · cases hs
      · cases hs
    · cases hs
  · split at hs
    · split at hs
      · rename_i hc0
        cases hs
        cases ins <;> simp only [mj_okP, Bool.and_eq_true, decide_eq_true_eq] at ho <;> (try exact absurd ho Bool.false_ne_true) <;> (try exact absurd ho.2 Bool.false_ne_true)
        exact W.objInit hx hb hown (hts _ (mj_w_of ho.2).1 (mj_w_of ho.2).2) (hw o1) (hw o2) rfl (by rw [hsz]) rfl ho.1 hRf (by rw [mj_cat_map]; show 2 * 0 + _ + _ ≤ _; omega) (k _ _ _ _ _ hr)
      · cases hs
    · cases hs
  · cases hs
end MJP
end
section
/-! The machine does what a run of the small machine says: one contract a run. -/
def mj_four (hs : List (Nat × Nat × Nat × Nat × Nat × Nat × Nat)) : List (Nat × Nat × Nat × Nat) := hs.map fun q => (q.1, q.2.1, q.2.2.1, q.2.2.2.1)
def mj_code (M : mj_M) : Jvm.Cond := match M.2.2.2.2.2.1 with
  | [] => .code M.1 M.2.1 M.2.2.1 M.2.2.2.1
  | hs => .codeWith M.1 M.2.1 M.2.2.1 M.2.2.2.1 (mj_four hs)
def mj_hok (y : MethodName) (cc : ByteArray) (q : Nat × Nat × Nat × Nat × Nat × Nat × Nat) : Bool := match q with
  | (_, _, hp, ct, x, k, nx) => !decide (ct = 0) && mj_inw (.classLink y.cls ct (mj_exc x)) && decide (x < 5) && ((decide (decode cc hp = .ok (.astore k, 2)) && decide (nx = hp + 2)) || (match k with
    | 0 => decide (decode cc hp = .ok (.astore_n 0, 1)) && decide (nx = hp + 1)
    | 1 => decide (decode cc hp = .ok (.astore_n 1, 1)) && decide (nx = hp + 1)
    | 2 => decide (decode cc hp = .ok (.astore_n 2, 1)) && decide (nx = hp + 1)
    | 3 => decide (decode cc hp = .ok (.astore_n 3, 1)) && decide (nx = hp + 1)
    | _ => false))
def mj_np (y : MethodName) : Option Nat := (parseMethodDescriptor y.desc).map fun d => d.parameters.length
/-- a method's own words -/
def mj_okM (M : mj_M) : Bool := match M with
  | (y, cc, n, ret, _, hs, kd, i1, i2, i3, i4) => plainName y.cls && mj_w i1 (mj_code M) && mj_w i2 (.initialized y.cls) && decide (n ≤ 40) && decide (y.cls ≠ "java/lang/invoke/MethodHandle") && decide (y.cls ≠ "java/lang/invoke/VarHandle") && hs.all (mj_hok y cc) && (match kd with
    | 0 => mj_w i3 (.static y) && decide (y.name ≠ "<init>")
    | 1 => mj_w i3 (.instanceMethod y) && mj_w i4 (.selects y.cls y y) && hs.isEmpty
    | _ => mj_w i3 (.instanceMethod y) && decide (y.name = "<init>") && decide (ret = none) && hs.isEmpty)
def mj_lk (own : String) (i : Nat) (y : MethodName) (r3 r4 : Nat) : Bool := match r3 with
  | 0 => mj_w r4 (.methodLink own i y)
  | _ => mj_w r4 (.methodLinkNest own i y "PolyRegisters")
/-- what a call was resolved to -/
def mj_okC (P : List mj_M) (y : MethodName) (cc : ByteArray) (pc : Nat) (ins : Instr) (r1 r2 r3 r4 r5 : Nat) : Bool := match P[r1]? with
  | none => false
  | some (y', _, _, _, _, hs, kd, _) => mj_lk y.cls (match ins with | .invokestatic i => i | .invokevirtual i => i | .invokespecial i => i | _ => 0) y' r3 r4 && (match ins with
    | .invokestatic i => decide (decode cc pc = .ok (.invokestatic i, 3)) && decide (kd = 0) && decide (mj_np y' = some r2) && (hs.isEmpty || decide (r3 = 0)) && decide (y'.cls = y'.cls)
    | .invokevirtual i => decide (decode cc pc = .ok (.invokevirtual i, 3)) && decide (kd = 1) && (match r2 with
      | 0 => false
      | n + 1 => decide (mj_np y' = some n)) && (match mj_cl[r5]? with
      | some q => decide (q.1 = y'.cls)
      | none => false)
    | .invokespecial i => decide (decode cc pc = .ok (.invokespecial i, 3)) && decide (kd = 2) && (match r2 with
      | 0 => false
      | n + 1 => decide (mj_np y' = some n))
    | _ => false)
def mj_okT (y : MethodName) (cc : ByteArray) (pc : Nat) (ins : Instr) (r1 r2 r4 : Nat) : Bool := match ins with
  | .new ik => decide (decode cc pc = .ok (.new ik, 3)) && decide (decode cc (pc + 3) = .ok (.dup, 1)) && decide (decode cc (pc + 4) = .ok (.invokespecial r2, 3)) && decide (decode cc (pc + 7) = .ok (.athrow, 1)) && mj_w r4 (.classLink y.cls ik (mj_exc r1)) && decide (r1 < 5)
  | _ => false
/-- the words of a throw in a class, by the constructor's number -/
def mj_thr (own : String) (ic i : Nat) : Bool := Bundle.fit (mj_exc i) && mj_inw (.initialized (mj_exc i)) && vx_ot (.initialized (mj_exc i)) && (vx_at0 own ic (mj_exc i) ["java/lang/RuntimeException", "java/lang/Exception"]).all fun w => mj_inw w && vx_ot w
def mj_okX (P : List mj_M) (thr : List (String × Nat × Nat)) (y : MethodName) (cc : ByteArray) (pc : Nat) (I : mj_I) : Bool := match I with
  | (ins, r1, r2, r3, r4, r5) => match mj_kind ins r3 with
    | 0 => mj_ok y cc pc I
    | 1 => decide (decode cc pc = .ok (ins, 1))
    | 2 => mj_okT y cc pc ins r1 r2 r4 && decide ((y.cls, r2, r1) ∈ thr)
    | 3 => mj_okC P y cc pc ins r1 r2 r3 r4 r5
    | _ => mj_okP y cc pc ins r3 r4
def mj_Inv (B b : Nat) (D : va_G) (dA : Nat → ClassId) (h : mj_H) (U : State) : Prop :=
  mj_HR B b D dA U h U.heap ∧ (∀ w ∈ lw_tbl, mj_mv w = true → w.before #[] U = true) ∧ va_K D mj_cl (mj_tys dA) U ∧ B ≤ U.heap.size ∧ b < B ∧ vx_Zq Bundle.tN "UNASSIGNED_STACK" Bundle.steD (fun q => B ≤ q) U U.heap ∧ vx_Zq Bundle.tN "SUPPRESSED_SENTINEL" Bundle.listD (fun q => B ≤ q) U U.heap ∧ ∀ i j, i < 5 → j < 5 → i ≠ j → va_Nc (mj_exc i) (mj_exc j) U
def mj_Pc (B b : Nat) (D : va_G) (dA : Nat → ClassId) (h : mj_H) (as : List Value) : Array Value → State → Prop := fun a U => a = (as.map (mj_rv B b)).toArray ∧ mj_Inv B b D dA h U
def mj_Qc (B b : Nat) (D : va_G) (dA : Nat → ClassId) (r : mj_R) : Array Value → State → Outcome → State → Prop := fun _ st oc t => ∃ v, r.1 = .inl v ∧ oc = .returned (v.map (mj_rv B b)) ∧ mj_HR B b D dA t r.2 t.heap ∧ va_F (fun q => B ≤ q) st t
def mj_Xc (B b : Nat) (D : va_G) (dA : Nat → ClassId) (r : mj_R) : String → State → State → Prop := fun E st t => ∃ i, r.1 = .inr i ∧ i < 5 ∧ E = mj_exc i ∧ mj_HR B b D dA t r.2 t.heap ∧ va_F (fun q => B ≤ q) st t
def mj_rm (d mc ms : Nat) : Room := { frames := d + 8, cells := mc, slots := ms, locals := 140 + d * 64 }
def mj_Spec (l : Launch) (B b : Nat) (D : va_G) (dA : Nat → ClassId) (d : Nat) (M : mj_M) (as : List Value) (h : mj_H) (r : mj_R) : Prop :=
  vx_Met l M.1 [mj_code M] (mj_rm d (r.2.length - h.length) (mj_sl r.2 - mj_sl h)) (mj_Pc B b D dA h as) (mj_Qc B b D dA r) (mj_Xc B b D dA r) (r.2.length - h.length) (mj_sl r.2 - mj_sl h) (fun q => B ≤ q)
theorem mj_Inv.warm {B b : Nat} {D : va_G} {dA : Nat → ClassId} {h : mj_H} {U U' : State} (hW : U.WarmedH U'.vm) (hh : U'.heap = U.heap) (hI : mj_Inv B b D dA h U) : mj_Inv B b D dA h U' := by
  obtain ⟨h1, h2, h3, h4, h5, h6, h7, h8⟩ := hI
  refine ⟨by rw [hh]; exact h1.moved hW.alike, fun w hw hm => mj_move hm hW (h2 w hw hm), va_K.moved hW.alike h3, by rw [hh]; exact h4, h5, by rw [hh]; exact vx_Zq.moved hW.alike h6, by rw [hh]; exact vx_Zq.moved hW.alike h7, fun i j hi hj hij => (h8 i j hi hj hij).moved hW.alike⟩
theorem mj_Inv.at {B b : Nat} {D : va_G} {dA : Nat → ClassId} {h0 h : mj_H} {s U : State} {H : Heap} {locs : List Loc} (hI : mj_Inv B b D dA h0 s) (hR : mj_HR B b D dA s h H) (hS : va_S (fun q => B ≤ q) s.heap H locs) (hU : U.heap = H) (hW : s.WarmedH U.vm) : mj_Inv B b D dA h U := by
  obtain ⟨h1, h2, h3, h4, h5, h6, h7, h8⟩ := hI
  subst hU
  exact ⟨hR.moved hW.alike, fun w hw hm => mj_move hm hW (h2 w hw hm), va_K.moved hW.alike h3, Nat.le_trans h4 hS.1, h5, vx_Zq.moved hW.alike (h6.kept hS.2.1), vx_Zq.moved hW.alike (h7.kept hS.2.1), fun i j hi hj hij => (h8 i j hi hj hij).moved hW.alike⟩
theorem mj_blind {B b : Nat} {D : va_G} {dA : Nat → ClassId} {h : mj_H} {as : List Value} : FrameBlind (mj_Pc B b D dA h as) := fun a U g mk hP => ⟨hP.1, hP.2.warm (U' := U.calling g mk a) (State.WarmedH.refl U) rfl⟩
theorem mj_loc0_len (f : Value → Value) (hf : ∀ v, (f v).category = v.category) : ∀ (as : List Value) (n : Nat), (lg_sl (as.map f)).length ≤ (mj_loc0 n as).length
  | [], n => by simp [lg_sl]
  | v :: t, n => by
    have h1 := mj_loc0_len f hf t (n - 2)
    have h2 := mj_loc0_len f hf t (n - 1)
    simp only [lg_sl] at h1 h2
    simp only [mj_loc0, lg_sl, List.map_cons, List.flatMap_cons, hf]
    split
    · simp only [List.length_append, List.length_cons, List.length_nil]; omega
    · simp only [List.length_append, List.length_cons, List.length_nil]; omega
theorem mj_loc0_get (f : Value → Value) (hf : ∀ v, (f v).category = v.category) : ∀ (as : List Value) (n o i : Nat) (v : Value), (mj_loc0 n as)[i]? = some (some v) → (o + i, f v) ∈ lv_args o (as.map f)
  | [], n, o, i, v, h => by
    simp only [mj_loc0, List.getElem?_replicate] at h
    split at h
    · cases h
    · cases h
  | w :: t, n, o, i, v, h => by
    simp only [mj_loc0] at h
    simp only [List.map_cons, lv_args, hf]
    split at h
    · rename_i hc
      rw [if_pos hc]
      match i, h with
      | 0, h => cases h; exact List.mem_cons_self
      | 1, h => cases h
      | i + 2, h =>
        have := mj_loc0_get f hf t (n - 2) (o + 2) i v h
        rw [show o + (i + 2) = o + 2 + i by omega]
        exact List.mem_cons_of_mem _ this
    · rename_i hc
      rw [if_neg hc]
      match i, h with
      | 0, h => cases h; exact List.mem_cons_self
      | i + 1, h =>
        have := mj_loc0_get f hf t (n - 1) (o + 1) i v h
        rw [show o + (i + 1) = o + 1 + i by omega]
        exact List.mem_cons_of_mem _ this
theorem mj_entry {B b nL : Nat} {as : List Value} (hl : (mj_loc0 nL as).length = nL) : mj_LR B b (mj_loc0 nL as) ((lg_sl (as.map (mj_rv B b)) ++ List.replicate (nL - (lg_sl (as.map (mj_rv B b))).length) Slot.unset).toArray) nL := by
  have h1 := lv_entry (as.map (mj_rv B b)) (n := nL) (by have := mj_loc0_len (mj_rv B b) (mj_rv_cat B b) as nL; omega)
  refine ⟨h1.1, hl, h1.2.1, fun i v hv => ?_⟩
  have h2 := mj_loc0_get (mj_rv B b) (mj_rv_cat B b) as nL 0 i v hv
  rw [Nat.zero_add] at h2
  exact h1.2.2 _ h2
theorem mj_LR.kill {B b : Nat} {loc : mj_L} {ls ls' : Array Slot} {nL i : Nat} {w : Value} (h : mj_LR B b loc ls nL)
    (h' : lv_has ls' nL ((i, w) :: (mj_lv B b loc).filter (fun q => !(q.1 == i) && !(q.1 + 1 == i && q.2.category == 2)))) : mj_LR B b (mj_kill loc i) ls' nL := by
  refine ⟨h'.1, ?_, h'.2.1, fun j u hu => ?_⟩
  · unfold mj_kill
    rw [List.length_set]
    exact (mj_st1_len loc i _).trans h.2.1
  unfold mj_kill at hu
  by_cases hj : j = i
  · subst hj
    rw [List.getElem?_set] at hu
    simp only [if_true] at hu
    split at hu <;> simp at hu
  · rw [List.getElem?_set_ne (fun e => hj e.symm)] at hu
    rcases mj_st1_get hu with ⟨e1, e2⟩ | ⟨e1, e2, e3⟩
    · exact absurd e1 hj
    · refine h'.2.2 (j, mj_rv B b u) (List.mem_cons_of_mem _ (List.mem_filter.mpr ⟨mj_lv_mem e2, ?_⟩))
      rw [mj_rv_cat]
      simp only [Bool.and_eq_true, Bool.not_eq_true', beq_eq_false_iff_ne, ne_eq, Bool.and_eq_false_iff]
      refine ⟨e1, ?_⟩
      by_cases hq : j + 1 = i
      · exact Or.inr fun z => e3 ⟨hq, z⟩
      · exact Or.inl hq
theorem mj_cast_ok : ((List.range 5).all fun i => mj_inw (.castable (mj_exc i) (mj_exc i))) = true := by decide +kernel
end
section
/-! A call by the contract of its callee; the loop; every run. -/
section MJK
variable {p : Program} {l : Launch} {e : Env} {R : Room} {s : State} {m : MethodId} {args : Array Value} {below : List Frame} {meth : Method} {c : Code} {H : Heap} {locs : List Loc} {cells slots : Nat} {Q : State → Prop}
variable {y : MethodName} {cc : ByteArray} {nL B b n0 s0 : Nat} {D : va_G} {dA : Nat → ClassId} {pc : Nat} {loc : mj_L} {st : List Value} {h : mj_H} {ls : Array Slot}
theorem mj_callrow {r1 : mj_R} {mc1 ms1 : Nat} {st0 rest : List Value} {a9 : Array Value} (hS : va_S (fun q => B ≤ q) s.heap H locs) (hr : vx_Run p l e R s m args below meth c H locs cells slots mc1 ms1 (F0 m pc ls st0) rest (mj_Qc B b D dA r1 a9) (mj_Xc B b D dA r1) (fun q => B ≤ q))
    (k1 : ∀ v, r1.1 = .inl v → ∀ (H1 : Heap) (locs1 : List Loc), mj_HR B b D dA s r1.2 H1 → va_S (fun q => B ≤ q) s.heap H1 locs1 → W p l e R s m args below meth c H1 locs1 (cells + mc1) (slots + ms1) Q (F0 m (pc + 3) ls (v.toList.map (mj_rv B b) ++ rest)))
    (k2 : ∀ i, r1.1 = .inr i → i < 5 → ∀ (H1 : Heap) (locs1 : List Loc) (q : Addr) (ce : Cell), mj_HR B b D dA s r1.2 H1 → va_S (fun q => B ≤ q) s.heap H1 locs1 → H1[q]? = some ce → ce.vm = .none → s.vm.findClass (mj_exc i) = some ce.cls → vx_W p l e R s m args below meth c H1 locs1 (cells + mc1) (slots + ms1) Q (F0 m pc ls rest) q) :
    W p l e R s m args below meth c H locs cells slots Q (F0 m pc ls st0) := by
  intro T hT X
  have hS2 : ∀ (st₀ t T' : State) (L : List Loc), st₀.heap = H → T'.heap = t.heap → (∀ q ∈ L, B ≤ q.base) → va_F (fun q => B ≤ q) st₀ t → va_S (fun q => B ≤ q) s.heap T'.heap (locs ++ L) := by
    intro st₀ t T' L h0 e1 hL hF
    obtain ⟨f1, f2⟩ := hF
    rw [h0] at f1 f2
    refine ⟨by rw [e1]; exact Nat.le_trans hS.1 f1, fun q g1 g2 => by rw [e1, f2 q (Nat.lt_of_lt_of_le g1 hS.1) g2]; exact hS.2.1 q g1 g2, fun q hq => ?_⟩
    rcases List.mem_append.mp hq with h | h
    · exact hS.2.2 q h
    · exact hL q h
  rcases hr T hT X with ⟨v, st₀, t, T', L, h0, X', hL, e1, e2, ⟨v', hv1, hv2, hHR, hF⟩, st⟩ | ⟨q, st₀, t, T', L, E, ce, h0, X', hL, e1, e2, ⟨i, hi1, hi2, hi3, hHR, hF⟩, hce, hcv, hcl, st⟩
  · have hal : t.vm.Alike s.vm := by rw [← e2]; exact X'.warmed.alike.symm
    have hv3 : v = v'.map (mj_rv B b) := Outcome.returned.inj hv2
    subst hv3
    obtain ⟨t2, a1, b1⟩ := k1 v' hv1 T'.heap (locs ++ L) (by rw [e1]; exact hHR.moved hal) (hS2 st₀ t T' L h0 e1 hL hF) T' rfl X'
    refine ⟨t2, st t2 ?_, b1⟩
    cases v' with
    | none => exact a1
    | some w => exact a1
  · have hal : t.vm.Alike s.vm := by rw [← e2]; exact X'.warmed.alike.symm
    subst hi3
    obtain ⟨t2, a1, b1⟩ := k2 i hi1 hi2 T'.heap (locs ++ L) q ce (by rw [e1]; exact hHR.moved hal) (hS2 st₀ t T' L h0 e1 hL hF) (by rw [e1]; exact hce) hcv hcl T' rfl X'
    exact ⟨t2, st.trans a1, b1⟩
theorem mj_mkrun {P : List mj_M} {ins : Instr} {r1 r2 r3 r4 r5 d : Nat} {M' : mj_M} {r' : mj_R} {h0 : mj_H} (C : mj_Ctx p s m args meth c y cc nL B b D dA) (hI : mj_Inv B b D dA h0 s) (hok : mj_okC P y cc pc ins r1 r2 r3 r4 r5 = true) (hP : P[r1]? = some M') (hM : mj_okM M' = true) (hr : mj_Rel B b D dA s nL n0 s0 loc h ls H locs cells slots)
    (h2 : r2 ≤ st.length) (h8 : mj_cat (st.drop r2) ≤ 8) (hrec : mj_recv ins r2 r5 st h = true) (hSp : mj_Spec l B b D dA d M' (st.take r2).reverse h r') (hRf : d + 9 ≤ R.frames) (hRl : 200 + d * 64 ≤ R.locals) (hc : cells + (r'.2.length - h.length) ≤ R.cells) (hs : slots + (mj_sl r'.2 - mj_sl h) ≤ R.slots) :
    ∃ a9, vx_Run p l e R s m args below meth c H locs cells slots (r'.2.length - h.length) (mj_sl r'.2 - mj_sl h) (F0 m pc ls (st.map (mj_rv B b))) ((st.drop r2).map (mj_rv B b)) (mj_Qc B b D dA r' a9) (mj_Xc B b D dA r') (fun q => B ≤ q) := by
  obtain ⟨hx, hb, hml, hown, hts, hK, hB, hbB, hlk, hin⟩ := C
  obtain ⟨y', cc', n', ret', code', hs', kd', i1, i2, i3, i4⟩ := M'
  have hsz : ls.size = nL := hr.2.1.1
  simp only [mj_okM, Bool.and_eq_true, decide_eq_true_eq] at hM
  obtain ⟨⟨⟨⟨⟨⟨⟨hpl, hw1⟩, hw2⟩, hn⟩, hy1⟩, hy2⟩, hhs⟩, hkd⟩ := hM
  simp only [mj_okC, hP, Bool.and_eq_true] at hok
  obtain ⟨hlk2, hok⟩ := hok
  have hcode : (mj_code (y', cc', n', ret', code', hs', kd', i1, i2, i3, i4)).before args s = true := hts _ (mj_w_of hw1).1 (mj_w_of hw1).2
  have hws : ∀ w ∈ [mj_code (y', cc', n', ret', code', hs', kd', i1, i2, i3, i4)], ∀ (a' : Array Value) (U : State), s.WarmedH U.vm → w.before a' U = true := by
    intro w hw a' U hW
    rw [List.mem_singleton.mp hw]
    exact mj_move (mj_w_of hw1).2 hW hcode
  have hini : (Jvm.Cond.initialized y'.cls).before args s = true := hts _ (mj_w_of hw2).1 (mj_w_of hw2).2
  have hPc : ∀ U : State, U.heap = H → s.WarmedH U.vm → mj_Pc B b D dA h (st.take r2).reverse (((st.take r2).reverse.map (mj_rv B b)).toArray) U := fun U hU hW => ⟨rfl, hI.at hr.1 hr.2.2.1 hU hW⟩
  have hroom : (mj_rm d (r'.2.length - h.length) (mj_sl r'.2 - mj_sl h)).frames + 1 ≤ R.frames ∧ 8 + (n' + 11) + (mj_rm d (r'.2.length - h.length) (mj_sl r'.2 - mj_sl h)).locals ≤ R.locals := by
    simp only [mj_rm]
    omega
  have hW8 : 2 * (F0 m pc ls (st.map (mj_rv B b))).monitorRoom + (((st.drop r2).map (mj_rv B b)).map fun v => v.category).sum ≤ 8 := by
    rw [mj_cat_map]
    show 2 * 0 + _ ≤ 8
    omega
  have hS : CallFix p m c cc nL s args [] y.cls := ⟨hx, hb, hml, hown, fun w h => nomatch h⟩
  cases ins <;> simp only [] at hok hlk2 <;> (try exact absurd hok Bool.false_ne_true)
  case invokespecial i =>
    simp only [Bool.and_eq_true, decide_eq_true_eq] at hok
    obtain ⟨⟨hd, hk0⟩, hnp⟩ := hok
    subst hk0
    simp only [Bool.and_eq_true, decide_eq_true_eq] at hkd
    obtain ⟨⟨⟨hw3, hyi⟩, hret⟩, hse⟩ := hkd
    have hs0 : hs' = [] := List.isEmpty_iff.mp hse
    subst hs0
    subst hret
    cases r2 with
    | zero => exact absurd hnp Bool.false_ne_true
    | succ n =>
      have hnp := of_decide_eq_true hnp
      have hlen : ∀ sig, parseMethodDescriptor y'.desc = some sig → n = sig.parameters.length := fun sig hsig => by
        unfold mj_np at hnp
        rw [hsig] at hnp
        exact (Option.some.inj hnp).symm
      simp only [mj_recv, Nat.add_sub_cancel] at hrec
      split at hrec
      · rename_i hz; cases hz
      · rename_i a tl hdr hne0
        have hta : st.take (n + 1) = st.take n ++ [.ref a] := by
          rw [List.take_add_one]
          have : st[n]? = some (.ref a) := by
            have h9 := congrArg (fun z : List Value => z[0]?) hdr
            simp only [List.getElem?_drop, List.getElem?_cons_zero, Nat.add_zero] at h9
            exact h9
          rw [this]; rfl
        have htd : st.drop (n + 1) = tl := by
          have h9 := congrArg (fun z : List Value => z.drop 1) hdr
          simpa [List.drop_drop] using h9
        have has : ((st.take (n + 1)).reverse.map (mj_rv B b)) = .ref (mj_ad B b a) :: ((st.take n).reverse.map (mj_rv B b)) := by
          rw [hta]; simp [mj_rv]
        have hstk : st.map (mj_rv B b) = ((st.take n).reverse.map (mj_rv B b)).reverse ++ .ref (mj_ad B b a) :: ((st.drop (n + 1)).map (mj_rv B b)) := by
          rw [htd]
          have h9 : st = st.take n ++ st.drop n := (List.take_append_drop n st).symm
          rw [hdr] at h9
          conv => lhs; rw [h9]
          simp [mj_rv]
        rw [has] at hPc
        have hnl : ((st.take n).reverse.map (mj_rv B b)).length = n := by simp; omega
        cases r3 with
        | zero =>
          exact ⟨_, vx_runI hS hSp ⟨⟨rfl, rfl, hroom.1, hroom.2, hws, List.mem_singleton.mpr rfl, hcode, hini, ⟨hy1, hy2⟩, hlen, hts _ (mj_w_of hlk2).1 (mj_w_of hlk2).2⟩, hyi, hts _ (mj_w_of hw3).1 (mj_w_of hw3).2⟩ ⟨mj_blind, hPc⟩ rfl hnl hsz hstk hW8 hd ⟨hc, hs⟩⟩
        | succ z =>
          exact ⟨_, vx_runIN hS hSp ⟨⟨⟨rfl, rfl, hroom.1, hroom.2, hws, List.mem_singleton.mpr rfl⟩, hcode, hini, ⟨hy1, hy2⟩, hlen, hts _ (mj_w_of hlk2).1 (mj_w_of hlk2).2⟩, hyi, hts _ (mj_w_of hw3).1 (mj_w_of hw3).2⟩ ⟨mj_blind, hPc⟩ rfl hnl hsz hstk hW8 hd ⟨hc, hs⟩⟩
      · cases hrec
  case invokestatic i =>
    simp only [Bool.and_eq_true, decide_eq_true_eq, Bool.or_eq_true] at hok
    obtain ⟨⟨⟨⟨hd, hk0⟩, hnp⟩, hse⟩, -⟩ := hok
    subst hk0
    simp only [Bool.and_eq_true, decide_eq_true_eq] at hkd
    obtain ⟨hw3, -⟩ := hkd
    have hlen : ∀ sig, parseMethodDescriptor y'.desc = some sig → r2 = sig.parameters.length := fun sig hsig => by
      unfold mj_np at hnp
      rw [hsig] at hnp
      exact (Option.some.inj hnp).symm
    have hstk : st.map (mj_rv B b) = ((st.take r2).reverse.map (mj_rv B b)).reverse ++ ((st.drop r2).map (mj_rv B b)) := by
      rw [← List.map_reverse, List.reverse_reverse, ← List.map_append, List.take_append_drop]
    have hnl : ((st.take r2).reverse.map (mj_rv B b)).length = r2 := by simp; omega
    have hst : (Jvm.Cond.static y').before args s = true := hts _ (mj_w_of hw3).1 (mj_w_of hw3).2
    cases hs' with
    | nil =>
      cases r3 with
      | zero =>
        exact ⟨_, vx_runS hS hSp ⟨⟨rfl, rfl, hroom.1, hroom.2, hws, List.mem_singleton.mpr rfl, hcode, hini, ⟨hy1, hy2⟩, hlen, hts _ (mj_w_of hlk2).1 (mj_w_of hlk2).2⟩, hst⟩ ⟨mj_blind, hPc⟩ rfl hnl hsz hstk hW8 hd ⟨hc, hs⟩⟩
      | succ z =>
        exact ⟨_, vx_runSN hS hSp ⟨⟨⟨rfl, rfl, hroom.1, hroom.2, hws, List.mem_singleton.mpr rfl⟩, hcode, hini, ⟨hy1, hy2⟩, hlen, hts _ (mj_w_of hlk2).1 (mj_w_of hlk2).2⟩, hst, trivial⟩ ⟨mj_blind, hPc⟩ rfl hnl hsz hstk hW8 hd ⟨hc, hs⟩⟩
    | cons q0 t0 =>
      rcases hse with hse | hse
      · cases hse
      · subst hse
        exact ⟨_, vx_runSX (hh := mj_four (q0 :: t0)) hS hSp ⟨⟨rfl, rfl, hroom.1, hroom.2, hws, List.mem_singleton.mpr rfl⟩, hcode, hini, ⟨hy1, hy2⟩, hlen, hts _ (mj_w_of hlk2).1 (mj_w_of hlk2).2, hst⟩ ⟨mj_blind, hPc⟩ rfl hnl hsz hstk hW8 hd ⟨hc, hs⟩⟩
  case invokevirtual i =>
    simp only [Bool.and_eq_true, decide_eq_true_eq] at hok
    obtain ⟨⟨⟨hd, hk0⟩, hnp⟩, hcl⟩ := hok
    subst hk0
    simp only [Bool.and_eq_true, decide_eq_true_eq] at hkd
    obtain ⟨⟨hw3, hw4⟩, hse⟩ := hkd
    have hs0 : hs' = [] := List.isEmpty_iff.mp hse
    subst hs0
    cases r2 with
    | zero => exact absurd hnp Bool.false_ne_true
    | succ n =>
      have hnp := of_decide_eq_true hnp
      have hlen : ∀ sig, parseMethodDescriptor y'.desc = some sig → n = sig.parameters.length := fun sig hsig => by
        unfold mj_np at hnp
        rw [hsig] at hnp
        exact (Option.some.inj hnp).symm
      simp only [mj_recv, Nat.add_sub_cancel] at hrec
      split at hrec
      · rename_i hz; cases hz
      · rename_i a tl hdr hne0
        split at hrec
        · rename_i ci fs hea
          have hci := of_decide_eq_true hrec
          subst hci
          split at hcl
          · rename_i q hq
            have hcl := of_decide_eq_true hcl
            have hta : st.take (n + 1) = st.take n ++ [.ref a] := by
              rw [List.take_add_one]
              have : st[n]? = some (.ref a) := by
                have h9 := congrArg (fun z : List Value => z[0]?) hdr
                simp only [List.getElem?_drop, List.getElem?_cons_zero, Nat.add_zero] at h9
                exact h9
              rw [this]; rfl
            have htd : st.drop (n + 1) = tl := by
              have h9 := congrArg (fun z : List Value => z.drop 1) hdr
              simpa [List.drop_drop] using h9
            have has : ((st.take (n + 1)).reverse.map (mj_rv B b)) = .ref (mj_ad B b a) :: ((st.take n).reverse.map (mj_rv B b)) := by
              rw [hta]; simp [mj_rv]
            have hstk : st.map (mj_rv B b) = ((st.take n).reverse.map (mj_rv B b)).reverse ++ .ref (mj_ad B b a) :: ((st.drop (n + 1)).map (mj_rv B b)) := by
              rw [htd]
              have h9 : st = st.take n ++ st.drop n := (List.take_append_drop n st).symm
              rw [hdr] at h9
              conv => lhs; rw [h9]
              simp [mj_rv]
            rw [has] at hPc
            have hnl : ((st.take n).reverse.map (mj_rv B b)).length = n := by simp; omega
            have hcell : ∃ cellB : Cell, H[mj_ad B b a]? = some cellB ∧ cellB.vm.isStatics = false ∧ s.vm.findClass y'.cls = some cellB.cls := by
              obtain ⟨r, g1, g2, cell, g3, g4, g5, -⟩ := hr.1.2.2 _ _ hea (mj_cl_ne hq)
              cases g1.symm.trans hq
              exact ⟨cell, g3, by rw [g5]; rfl, by rw [g4, ← hcl]; exact (hK.1 ci _ hq).2.1⟩
            cases r3 with
            | zero =>
              exact ⟨_, vx_runV (C := y'.cls) hS hSp ⟨⟨rfl, rfl, hroom.1, hroom.2, hws, List.mem_singleton.mpr rfl, hcode, hini, ⟨hy1, hy2⟩, hlen, hts _ (mj_w_of hlk2).1 (mj_w_of hlk2).2⟩, hts _ (mj_w_of hw3).1 (mj_w_of hw3).2, hts _ (mj_w_of hw4).1 (mj_w_of hw4).2⟩ ⟨mj_blind, hcell, hPc⟩ rfl hnl hsz hstk hW8 hd ⟨hc, hs⟩⟩
            | succ z =>
              exact ⟨_, vx_runVN (C := y'.cls) hS hSp ⟨⟨⟨rfl, rfl, hroom.1, hroom.2, hws, List.mem_singleton.mpr rfl⟩, hcode, hini, ⟨hy1, hy2⟩, hlen, hts _ (mj_w_of hlk2).1 (mj_w_of hlk2).2⟩, hts _ (mj_w_of hw3).1 (mj_w_of hw3).2, hts _ (mj_w_of hw4).1 (mj_w_of hw4).2⟩ ⟨mj_blind, hcell, hPc⟩ rfl hnl hsz hstk hW8 hd ⟨hc, hs⟩⟩
          · cases hcl
        · cases hrec
      · cases hrec
end MJK
end
section
/-! The loop, and every run of a table that the kernel has checked. -/
def mj_okA (P : List mj_M) (thr : List (String × Nat × Nat)) (M : mj_M) : Prop := mj_okM M = true ∧ ∀ (pc : Nat) (I : mj_I), M.2.2.2.2.1 pc = some I → mj_okX P thr M.1 M.2.1 pc I = true
def mj_okP2 (P : List mj_M) (thr : List (String × Nat × Nat)) : Prop := (∀ q ∈ thr, mj_thr q.1 q.2.1 q.2.2 = true) ∧ ∀ (j : Nat) (M : mj_M), P[j]? = some M → mj_okA P thr M
section MJW
variable {p : Program} {l : Launch} {e : Env} {R : Room} {s : State} {m : MethodId} {args : Array Value} {below : List Frame} {meth : Method} {c : Code}
variable {B b : Nat} {D : va_G} {dA : Nat → ClassId}
theorem mj_find_of {cc : ByteArray} {y : MethodName} : ∀ {hs : List (Nat × Nat × Nat × Nat × Nat × Nat × Nat)} {pc i k nx : Nat}, mj_find hs pc i = some (k, nx) → hs.all (mj_hok y cc) = true → ∃ pre a b2 hp ct suf, hs = pre ++ (a, b2, hp, ct, i, k, nx) :: suf ∧ a ≤ pc ∧ pc < b2 ∧ mj_hok y cc (a, b2, hp, ct, i, k, nx) = true ∧ ∀ z ∈ pre, mj_hok y cc z = true ∧ (¬ (z.1 ≤ pc ∧ pc < z.2.1) ∨ z.2.2.2.2.1 ≠ i)
  | [], _, _, _, _, h, _ => by cases h
  | (a, b2, hp, ct, x, k0, n0) :: t, pc, i, k, nx, h, ho => by
    simp only [List.all_cons, Bool.and_eq_true] at ho
    simp only [mj_find] at h
    split at h
    · rename_i hc
      obtain ⟨h1, h2, rfl⟩ := hc
      cases h
      exact ⟨[], a, b2, hp, ct, t, rfl, h1, h2, ho.1, fun z hz => nomatch hz⟩
    · rename_i hc
      obtain ⟨pre, a', b', hp', ct', suf, h1, h2, h3, h4, h5⟩ := mj_find_of h ho.2
      refine ⟨(a, b2, hp, ct, x, k0, n0) :: pre, a', b', hp', ct', suf, by rw [h1]; rfl, h2, h3, h4, fun z hz => ?_⟩
      rcases List.mem_cons.mp hz with rfl | hz
      · refine ⟨ho.1, ?_⟩
        by_cases hq : a ≤ pc ∧ pc < b2
        · exact Or.inr fun e => hc ⟨hq.1, hq.2, e⟩
        · exact Or.inl hq
      · exact h5 z hz
theorem mj_walk {P : List mj_M} {thr : List (String × Nat × Nat)} (hP : mj_okP2 P thr) (hl : l.stackTraces = false) {Fu d : Nat}
    (ih : ∀ (j : Nat) (as : List Value) (h : mj_H) (r : mj_R), mj_run P Fu d j as h = some r → ∀ M, P[j]? = some M → ∀ (B b : Nat) (D : va_G) (dA : Nat → ClassId), mj_Spec l B b D dA d M as h r)
    {M : mj_M} (hH : M.2.2.2.2.2.1.all (mj_hok M.1 M.2.1) = true) (hM : ∀ (pc : Nat) (I : mj_I), M.2.2.2.2.1 pc = some I → mj_okX P thr M.1 M.2.1 pc I = true) {h0 : mj_H} (C : mj_Ctx p s m args meth c M.1 M.2.1 M.2.2.1 B b D dA) (hI : mj_Inv B b D dA h0 s) (hret : meth.sig.returnType = M.2.2.2.1) (htab : c.exceptionTable.toList = tableOf (mj_four M.2.2.2.2.2.1)) {mc ms : Nat} :
    ∀ (F pc : Nat) (loc : mj_L) (st : List Value) (h : mj_H) (r : mj_R) (H : Heap) (ls : Array Slot) (locs : List Loc) (cells slots : Nat), mj_loop (mj_run P Fu d) M F pc loc st h = some r → mj_Rel B b D dA s M.2.2.1 h0.length (mj_sl h0) loc h ls H locs cells slots → h0.length + mc = r.2.length → mj_sl h0 + ms = mj_sl r.2 →
      W p l e (mj_rm (d + 1) mc ms) s m args below meth c H locs cells slots (vx_MQ below (mj_Qc B b D dA r) (mj_Xc B b D dA r) args s mc ms (fun q => B ≤ q)) (F0 m pc ls (st.map (mj_rv B b))) := by
  intro F
  induction F with
  | zero => intro pc loc st h r H ls locs cells slots hs; cases hs
  | succ F ihF =>
    intro pc loc st h r H ls locs cells slots hs hr hmc hms
    have hmono := mj_loop_mono (mj_run_mono P Fu d) hs
    have hC := C
    obtain ⟨hx, hb, hml, hown, hts, hK, hB, hbB, hlk, hin⟩ := C
    have hc0 := hr.2.2.2.1
    have hs0 := hr.2.2.2.2
    unfold mj_loop at hs
    split at hs
    · cases hs
    · rename_i ins r1 r2 r3 r4 r5 hcode
      have hX := hM _ _ hcode
      simp only [mj_okX] at hX
      split at hs
      · rename_i hk
        rw [hk] at hX
        split at hs
        · rename_i pc' loc' st' h' h1
          have h3 := mj_loop_mono (mj_run_mono P Fu d) hs
          exact mj_sim hC hX h1 hr (by show _ ≤ _ + mc; omega) (by show _ ≤ _ + ms; omega) (fun ls' H' locs' cells' slots' hr' => ihF _ _ _ _ _ _ _ _ _ _ hs hr' hmc hms)
        · cases hs
      · rename_i hk
        rw [hk] at hX
        split at hs
        · rename_i v h1
          cases hs
          have e1 : cells = mc := by simp only at hmc; omega
          have e2 : slots = ms := by simp only at hms; omega
          subst e1
          subst e2
          refine mj_sim_ret hx hb hlk hret (of_decide_eq_true hX) h1 (fun t ht hW => ⟨v, rfl, rfl, ?_, hr.2.2.1.F ht⟩) hr.2.2.1.2.2
          rw [ht]
          exact hr.1.moved hW.alike
        · cases hs
      · rename_i hk
        rw [hk] at hX
        split at hs
        · rename_i hcond
          obtain ⟨hh0, hcat⟩ := hcond
          cases hs
          simp only [Bool.and_eq_true, decide_eq_true_eq] at hX
          obtain ⟨hT, hthr⟩ := hX
          have hthr2 := hP.1 _ hthr
          simp only [mj_thr, Bool.and_eq_true, List.all_eq_true] at hthr2
          obtain ⟨⟨⟨hfit, hw1⟩, ho1⟩, hall⟩ := hthr2
          cases ins <;> simp only [mj_okT] at hT <;> (try exact absurd hT Bool.false_ne_true)
          rename_i ik
          simp only [Bool.and_eq_true, decide_eq_true_eq] at hT
          obtain ⟨⟨⟨⟨⟨hd0, hd3⟩, hd4⟩, hd7⟩, hw4⟩, hr5⟩ := hT
          simp only [List.length_append, List.length_cons, List.length_nil] at hmc
          rw [mj_sl_push] at hms
          simp only [mj_slot, List.length_cons, List.length_nil] at hms
          have hkw := hts _ (mj_w_of hw4).1 (mj_w_of hw4).2
          rw [hh0] at htab
          refine mj_throw0 (A := fun q => B ≤ q) hx hb hl (ik := ik) (ic := r2) (cls := mj_exc r1) (names := ["java/lang/RuntimeException", "java/lang/Exception"]) hown hfit (by decide +kernel) hkw (hts _ (mj_inw_of hw1).1 (mj_inw_of hw1).2) (fun w hw => hts _ (mj_inw_of (hall w hw).1).1 (mj_inw_of (hall w hw).1).2) ?_ hI.2.2.2.2.2.1 hI.2.2.2.2.2.2.1 hr.2.2.1 (by rw [hml, hr.2.1.1]) hd0 hd3 hd4 hd7 (by rw [htab]; intro x hx; cases hx) (by show 2 + 3 < _; simp only [mj_rm]; omega) (by rw [mj_cat_map]; show _ + (13 * 3 + 42) ≤ _; simp only [mj_rm]; omega) (by show _ ≤ mc; omega) (by show _ ≤ ms; omega) hlk ?_ hr.2.2.1.2.2 (by omega) (by omega)
          · intro w hw
            rcases List.mem_cons.mp hw with rfl | hw
            · rfl
            · rcases List.mem_cons.mp hw with rfl | hw
              · exact ho1
              · exact (hall w hw).2
          · intro t hal hz ho
            refine ⟨r1, rfl, hr5, rfl, ?_, ⟨by rw [hz]; exact Nat.le_succ_of_le hr.2.2.1.1, fun q g1 g2 => (ho q (Nat.lt_of_lt_of_le g1 hr.2.2.1.1)).trans (hr.2.2.1.2.1 q g1 g2)⟩⟩
            exact ((hr.1.push hbB (e := .inr (99, [.null, .null, .null, .null, .null, .null])) (fun h => absurd rfl h) hz ho).1).moved hal
        · cases hs
      · rename_i hk
        rw [hk] at hX
        split at hs
        · rename_i hcond
          obtain ⟨hlen, hcat, hrec⟩ := hcond
          have hPM : ∃ M', P[r1]? = some M' := by
            simp only [mj_okC] at hX
            split at hX
            · cases hX
            · rename_i hq; exact ⟨_, hq⟩
          obtain ⟨M', hPM⟩ := hPM
          have key : ∀ r', mj_run P Fu d r1 (st.take r2).reverse h = some r' → r'.2.length ≤ r.2.length → mj_sl r'.2 ≤ mj_sl r.2 → _ := fun r' h1 g1 g2 =>
            mj_mkrun (p := p) (l := l) (e := e) (below := below) (R := mj_rm (d + 1) mc ms) hC hI hX hPM (hP.2 _ _ hPM).1 hr hlen hcat hrec (ih _ _ _ _ h1 M' hPM B b D dA) (by simp only [mj_rm]; omega) (by simp only [mj_rm]; omega) (by have := (mj_run_mono P Fu d _ _ _ _ h1).1; show _ ≤ mc; omega) (by have := (mj_run_mono P Fu d _ _ _ _ h1).2; show _ ≤ ms; omega)
          split at hs
          · rename_i v h' h1
            have h3 := mj_loop_mono (mj_run_mono P Fu d) hs
            have h4 := mj_run_mono P Fu d _ _ _ _ h1
            obtain ⟨a9, hrun⟩ := key _ h1 h3.1 h3.2
            refine mj_callrow hr.2.2.1 hrun (fun v' hv' H1 locs1 hR1 hS1 => ?_) (fun i hi => by cases hi)
            cases hv'
            rw [← List.map_append]
            exact ihF _ _ _ _ _ _ _ _ _ _ hs ⟨hR1, hr.2.1, hS1, by have := h4.1; simp only at this ⊢; omega, by have := h4.2; simp only at this ⊢; omega⟩ hmc hms
          · rename_i i h' h1
            have h4 := mj_run_mono P Fu d _ _ _ _ h1
            split at hs
            · rename_i hh0
              cases hs
              obtain ⟨a9, hrun⟩ := key _ h1 (Nat.le_refl _) (Nat.le_refl _)
              rw [hh0] at htab
              refine mj_callrow hr.2.2.1 hrun (fun v' hv' => by cases hv') (fun i' hi' hi5 H1 locs1 q ce hR1 hS1 hce hcv hcl => ?_)
              cases hi'
              exact vx_out (by rw [htab]; intro x hx; cases hx) hlk hce hcv hcl (fun t ht hal => ⟨i, rfl, hi5, rfl, by rw [ht]; exact hR1.moved hal, hS1.F ht⟩) hS1.2.2 (by have := h4.1; simp only at this hmc ⊢; omega) (by have := h4.2; simp only at this hms ⊢; omega)
            · split at hs
              · rename_i k nx hfind
                split at hs
                · rename_i hkl
                  have h3 := mj_loop_mono (mj_run_mono P Fu d) hs
                  obtain ⟨a9, hrun⟩ := key _ h1 h3.1 h3.2
                  refine mj_callrow hr.2.2.1 hrun (fun v' hv' => by cases hv') (fun i' hi' hi5 H1 locs1 q ce hR1 hS1 hce hcv hcl => ?_)
                  cases hi'
                  obtain ⟨pre, a, b2, hp, ct, suf, e1, e2, e3, e4, e5⟩ := mj_find_of hfind hH
                  simp only [mj_hok, Bool.and_eq_true, Bool.not_eq_true', decide_eq_false_iff_not, decide_eq_true_eq, Bool.or_eq_true] at e4
                  obtain ⟨⟨⟨hct, hwl⟩, hx5⟩, hdec⟩ := e4
                  have hcast := List.all_eq_true.mp mj_cast_ok i (List.mem_range.mpr hx5)
                  have hgo : W p l e (mj_rm (d + 1) mc ms) s m args below meth c H1 locs1 (cells + (h'.length - h.length)) (slots + (mj_sl h' - mj_sl h)) (vx_MQ below (mj_Qc B b D dA r) (mj_Xc B b D dA r) args s mc ms (fun q => B ≤ q)) (F0 m hp ls [.ref q]) := by
                    have hgo2 : ∀ ls' : Array Slot, lv_has ls' M.2.2.1 ((k, Value.ref q) :: (mj_lv B b loc).filter (fun q => !(q.1 == k) && !(q.1 + 1 == k && q.2.category == 2))) → W p l e (mj_rm (d + 1) mc ms) s m args below meth c H1 locs1 (cells + (h'.length - h.length)) (slots + (mj_sl h' - mj_sl h)) (vx_MQ below (mj_Qc B b D dA r) (mj_Xc B b D dA r) args s mc ms (fun q => B ≤ q)) (F0 m nx ls' []) := fun ls' hl' =>
                      ihF _ _ _ _ _ _ _ _ _ _ hs ⟨hR1, hr.2.1.kill hl', hS1, by have := h4.1; simp only at this ⊢; omega, by have := h4.2; simp only at this ⊢; omega⟩ hmc hms
                    have hkn : k < M.2.2.1 := by rw [← hr.2.1.2.1]; exact hkl
                    rcases hdec with ⟨hd1, hnx⟩ | hdec
                    · subst hnx
                      exact lv_astore hx hb hd1 hr.2.1.has hkn rfl hgo2
                    · match k, hdec with
                      | 0, hdec =>
                        simp only [Bool.and_eq_true, decide_eq_true_eq] at hdec
                        obtain ⟨hd1, hnx⟩ := hdec
                        subst hnx
                        exact lv_astore_n hx hb hd1 rfl hr.2.1.has hkn rfl hgo2
                      | 1, hdec =>
                        simp only [Bool.and_eq_true, decide_eq_true_eq] at hdec
                        obtain ⟨hd1, hnx⟩ := hdec
                        subst hnx
                        exact lv_astore_n hx hb hd1 rfl hr.2.1.has hkn rfl hgo2
                      | 2, hdec =>
                        simp only [Bool.and_eq_true, decide_eq_true_eq] at hdec
                        obtain ⟨hd1, hnx⟩ := hdec
                        subst hnx
                        exact lv_astore_n hx hb hd1 rfl hr.2.1.has hkn rfl hgo2
                      | 3, hdec =>
                        simp only [Bool.and_eq_true, decide_eq_true_eq] at hdec
                        obtain ⟨hd1, hnx⟩ := hdec
                        subst hnx
                        exact lv_astore_n hx hb hd1 rfl hr.2.1.has hkn rfl hgo2
                      | k + 4, hdec => exact absurd hdec Bool.false_ne_true
                  refine vx_catch (own := M.1.cls) (name := mj_exc i) (E := mj_exc i) hown (tableOf (mj_four pre)) ⟨a, b2, hp, ct⟩ (tableOf (mj_four suf)) (by rw [htab, e1]; simp [tableOf, mj_four]) ?_ (by simp [covers, e2, e3]) hct (hts _ (mj_inw_of hwl).1 (mj_inw_of hwl).2) (hts _ (mj_inw_of hcast).1 (mj_inw_of hcast).2) hce hcv hcl hgo
                  intro z hz
                  simp only [tableOf, mj_four, List.map_map, List.mem_map] at hz
                  obtain ⟨w, hw, rfl⟩ := hz
                  obtain ⟨g1, g2⟩ := e5 w hw
                  obtain ⟨wa, wb, whp, wct, wx, wk, wn⟩ := w
                  rcases g2 with g2 | g2
                  · refine Or.inl ?_
                    simp only [covers, Function.comp_apply]
                    simp only at g2
                    by_cases hz1 : wa ≤ pc
                    · have hz2 : ¬ pc < wb := fun q => g2 ⟨hz1, q⟩
                      simp [hz2]
                    · simp [hz1]
                  · simp only [mj_hok, Bool.and_eq_true, Bool.not_eq_true', decide_eq_false_iff_not, decide_eq_true_eq] at g1
                    obtain ⟨⟨⟨hct2, hwl2⟩, hx52⟩, -⟩ := g1
                    exact Or.inr ⟨hct2, mj_exc wx, hts _ (mj_inw_of hwl2).1 (mj_inw_of hwl2).2, hI.2.2.2.2.2.2.2 i wx hx5 hx52 (fun q => g2 q.symm)⟩
                · cases hs
              · cases hs
          · cases hs
        · cases hs
      · rename_i hk0 hk1 hk2 hk3
        split at hX
        · exact absurd (by assumption) hk0
        · exact absurd (by assumption) hk1
        · exact absurd (by assumption) hk2
        · exact absurd (by assumption) hk3
        · split at hs
          · rename_i st' h' h1
            have h3 := mj_loop_mono (mj_run_mono P Fu d) hs
            exact mj_sim_prim hC hX h1 hr (by simp only [mj_rm]; omega) (by simp only [mj_rm]; omega) (by show _ ≤ _ + mc; omega) (by show _ ≤ _ + ms; omega) (fun ls' H' locs' cells' slots' hr' => ihF _ _ _ _ _ _ _ _ _ _ hs hr' hmc hms)
          · cases hs
end MJW
theorem mj_okM_h {M : mj_M} (h : mj_okM M = true) : M.2.2.2.2.2.1.all (mj_hok M.1 M.2.1) = true := by
  obtain ⟨y', cc', n', ret', code', hs', kd', i1, i2, i3, i4⟩ := M
  simp only [mj_okM, Bool.and_eq_true] at h
  exact h.1.2
theorem mj_sound {P : List mj_M} {thr : List (String × Nat × Nat)} (hP : mj_okP2 P thr) {l : Launch} (hl : l.stackTraces = false) (Fu : Nat) : ∀ (d j : Nat) (as : List Value) (h : mj_H) (r : mj_R), mj_run P Fu d j as h = some r → ∀ M, P[j]? = some M → ∀ (B b : Nat) (D : va_G) (dA : Nat → ClassId), mj_Spec l B b D dA d M as h r := by
  intro d
  induction d with
  | zero => intro j as h r hs; cases hs
  | succ d ih =>
    intro j as h r hs M hj B b D dA
    have hmono := mj_run_mono P Fu (d + 1) j as h r hs
    have hMok := hP.2 j M hj
    have hbody : ∀ (p : Program) (e : Env) (s : State) (m : MethodId) (args : Array Value) (below : List Frame) (meth : Method) (c : Code) (s₁ : State), BodyLoose p l M.1 (headSpec [mj_code M] (mj_rm (d + 1) (r.2.length - h.length) (mj_sl r.2 - mj_sl h))) M.2.1 M.2.2.1 M.2.2.2.1 e s m args below meth c s₁ → c.maxLocals = M.2.2.1 → c.exceptionTable.toList = tableOf (mj_four M.2.2.2.2.2.1) → mj_Pc B b D dA h as args s →
        W p l e (mj_rm (d + 1) (r.2.length - h.length) (mj_sl r.2 - mj_sl h)) s m args below meth c s.heap [] 0 0 (vx_MQ below (mj_Qc B b D dA r) (mj_Xc B b D dA r) args s (r.2.length - h.length) (mj_sl r.2 - mj_sl h) (fun q => B ≤ q)) (entryFrame m args M.2.2.1) := by
      intro p e s m args below meth c s₁ Bd hml htab hPc
      obtain ⟨rfl, hI⟩ := hPc
      simp only [mj_run, hj] at hs
      split at hs
      · rename_i hlen
        have hC : mj_Ctx p s m (as.map (mj_rv B b)).toArray meth c M.1 M.2.1 M.2.2.1 B b D dA := ⟨Bd.exec, Bd.bytes, hml, findClass_of_methodNamed Bd.named, fun w hw hm => mj_move hm (State.WarmedH.refl s) (hI.2.1 w hw hm), hI.2.2.1, hI.2.2.2.1, hI.2.2.2.2.1, Bd.notSynchronized, fun hy => (name_of_methodNamed Bd.named Bd.method).1.trans hy⟩
        rw [lg_entry_eq]
        exact mj_walk hP hl ih (mj_okM_h hMok.1) hMok.2 hC hI Bd.returns htab Fu 0 _ [] h r _ _ _ _ _ hs ⟨hI.1, mj_entry hlen, va_S.rf, rfl, rfl⟩ (by omega) (by omega)
      · cases hs
    have hpl : plainName M.1.cls = true := by
      have h9 := hMok.1
      obtain ⟨y', cc', n', ret', code', hs', kd', i1, i2, i3, i4⟩ := M
      simp only [mj_okM, Bool.and_eq_true] at h9
      exact h9.1.1.1.1.1.1.1
    unfold mj_Spec
    cases hh : M.2.2.2.2.2.1 with
    | nil =>
      have hcd : mj_code M = .code M.1 M.2.1 M.2.2.1 M.2.2.2.1 := by unfold mj_code; rw [hh]
      rw [hcd] at hbody ⊢
      refine vx_ofW (cc := M.2.1) (maxL := M.2.2.1) (ret := M.2.2.2.1) hpl rfl (fun p e s m args below meth c s₁ Bd hml ht hPc => hbody p e s m args below meth c s₁ Bd hml ?_ hPc)
      rw [hh]
      cases hct : c.exceptionTable.toList with
      | nil => rfl
      | cons x t => exact absurd (by rw [hct]; exact List.mem_cons_self) (ht x)
    | cons q0 t0 =>
      have hcd : mj_code M = .codeWith M.1 M.2.1 M.2.2.1 M.2.2.2.1 (mj_four (q0 :: t0)) := by unfold mj_code; rw [hh]
      rw [hcd] at hbody ⊢
      refine vx_ofWH (cc := M.2.1) (maxL := M.2.2.1) (ret := M.2.2.2.1) (hh := mj_four (q0 :: t0)) hpl rfl (fun p e s m args below meth c s₁ Bd hml hPc => hbody p e s m args below meth c s₁ Bd hml ?_ hPc)
      rw [hh]
      exact vx_table (x := M.1) Bd (atoms_spec Bd.pre _ List.mem_cons_self)
end
