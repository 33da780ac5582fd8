section
-- ===== PART A: goes FIRST, ahead of the names: the tables' words, and 'selects' of the private methods out of them =====
/-- a private method of a class that the tables say can be made, by its rows of tables_1 -/
def lw_okq (q : MethodName × Nat) : Prop := (q.1.cls ≠ "java/lang/invoke/MethodHandle" ∧ q.1.cls ≠ "java/lang/invoke/VarHandle") ∧ Cond.instantiable q.1.cls q.2 ∈ tables_1 ∧ Cond.privateMethod q.1 ∈ tables_1 ∧ Cond.instanceMethod q.1 ∈ tables_1
theorem lw_p0 : lw_okq (⟨"PolyRegisters", "keepEarlier", "()V"⟩, 16) := ⟨⟨by decide +kernel, by decide +kernel⟩, List.mem_of_getElem? (i := 25) (by decide +kernel), List.mem_of_getElem? (i := 365) (by decide +kernel), List.mem_of_getElem? (i := 366) (by decide +kernel)⟩
theorem lw_p1 : lw_okq (⟨"PolyRegisters", "earlierBench", "()LPolyRegisters$Bench;"⟩, 16) := ⟨⟨by decide +kernel, by decide +kernel⟩, List.mem_of_getElem? (i := 25) (by decide +kernel), List.mem_of_getElem? (i := 369) (by decide +kernel), List.mem_of_getElem? (i := 370) (by decide +kernel)⟩
theorem lw_p2 : lw_okq (⟨"PolyRegisters$Bench", "placeAt", "(I)I"⟩, 4) := ⟨⟨by decide +kernel, by decide +kernel⟩, List.mem_of_getElem? (i := 33) (by decide +kernel), List.mem_of_getElem? (i := 380) (by decide +kernel), List.mem_of_getElem? (i := 381) (by decide +kernel)⟩
theorem lw_p3 : lw_okq (⟨"PolyRegisters", "told", "(Z)LPolyRegisters$Wide;"⟩, 16) := ⟨⟨by decide +kernel, by decide +kernel⟩, List.mem_of_getElem? (i := 25) (by decide +kernel), List.mem_of_getElem? (i := 403) (by decide +kernel), List.mem_of_getElem? (i := 404) (by decide +kernel)⟩
theorem lw_p4 : lw_okq (⟨"PolyRegisters$Desk", "times", "(LPolyRegisters$Poly;LPolyRegisters$Poly;LPolyRegisters$Poly;)Z"⟩, 8) := ⟨⟨by decide +kernel, by decide +kernel⟩, List.mem_of_getElem? (i := 75) (by decide +kernel), List.mem_of_getElem? (i := 468) (by decide +kernel), List.mem_of_getElem? (i := 469) (by decide +kernel)⟩
theorem lw_p5 : lw_okq (⟨"PolyRegisters$Wide", "gather", "(LPolyRegisters$Wide;)V"⟩, 3) := ⟨⟨by decide +kernel, by decide +kernel⟩, List.mem_of_getElem? (i := 87) (by decide +kernel), List.mem_of_getElem? (i := 502) (by decide +kernel), List.mem_of_getElem? (i := 503) (by decide +kernel)⟩
theorem lw_p6 : lw_okq (⟨"PolyRegisters$Wide", "isLess", "(LPolyRegisters$Wide;)Z"⟩, 3) := ⟨⟨by decide +kernel, by decide +kernel⟩, List.mem_of_getElem? (i := 87) (by decide +kernel), List.mem_of_getElem? (i := 507) (by decide +kernel), List.mem_of_getElem? (i := 508) (by decide +kernel)⟩
theorem lw_p7 : lw_okq (⟨"PolyRegisters$Wide", "differ", "(LPolyRegisters$Wide;LPolyRegisters$Wide;)V"⟩, 3) := ⟨⟨by decide +kernel, by decide +kernel⟩, List.mem_of_getElem? (i := 87) (by decide +kernel), List.mem_of_getElem? (i := 511) (by decide +kernel), List.mem_of_getElem? (i := 512) (by decide +kernel)⟩
theorem lw_p8 : lw_okq (⟨"PolyRegisters$Text", "putTerm", "(JI)V"⟩, 2) := ⟨⟨by decide +kernel, by decide +kernel⟩, List.mem_of_getElem? (i := 59) (by decide +kernel), List.mem_of_getElem? (i := 520) (by decide +kernel), List.mem_of_getElem? (i := 521) (by decide +kernel)⟩
theorem lw_p9 : lw_okq (⟨"PolyRegisters$Text", "put", "(I)V"⟩, 2) := ⟨⟨by decide +kernel, by decide +kernel⟩, List.mem_of_getElem? (i := 59) (by decide +kernel), List.mem_of_getElem? (i := 524) (by decide +kernel), List.mem_of_getElem? (i := 525) (by decide +kernel)⟩
theorem lw_p10 : lw_okq (⟨"PolyRegisters$Text", "putNumber", "(J)V"⟩, 2) := ⟨⟨by decide +kernel, by decide +kernel⟩, List.mem_of_getElem? (i := 59) (by decide +kernel), List.mem_of_getElem? (i := 528) (by decide +kernel), List.mem_of_getElem? (i := 529) (by decide +kernel)⟩
theorem lw_p11 : lw_okq (⟨"PolyRegisters$Reader", "readSum", "(I)V"⟩, 8) := ⟨⟨by decide +kernel, by decide +kernel⟩, List.mem_of_getElem? (i := 267) (by decide +kernel), List.mem_of_getElem? (i := 538) (by decide +kernel), List.mem_of_getElem? (i := 539) (by decide +kernel)⟩
theorem lw_p12 : lw_okq (⟨"PolyRegisters$Reader", "takes", "(C)Z"⟩, 8) := ⟨⟨by decide +kernel, by decide +kernel⟩, List.mem_of_getElem? (i := 267) (by decide +kernel), List.mem_of_getElem? (i := 548) (by decide +kernel), List.mem_of_getElem? (i := 549) (by decide +kernel)⟩
theorem lw_p13 : lw_okq (⟨"PolyRegisters$Reader", "skipBlanks", "()V"⟩, 8) := ⟨⟨by decide +kernel, by decide +kernel⟩, List.mem_of_getElem? (i := 267) (by decide +kernel), List.mem_of_getElem? (i := 552) (by decide +kernel), List.mem_of_getElem? (i := 553) (by decide +kernel)⟩
theorem lw_p14 : lw_okq (⟨"PolyRegisters$Reader", "readProduct", "(I)V"⟩, 8) := ⟨⟨by decide +kernel, by decide +kernel⟩, List.mem_of_getElem? (i := 267) (by decide +kernel), List.mem_of_getElem? (i := 560) (by decide +kernel), List.mem_of_getElem? (i := 561) (by decide +kernel)⟩
theorem lw_p15 : lw_okq (⟨"PolyRegisters$Reader", "readFactor", "(I)I"⟩, 8) := ⟨⟨by decide +kernel, by decide +kernel⟩, List.mem_of_getElem? (i := 267) (by decide +kernel), List.mem_of_getElem? (i := 564) (by decide +kernel), List.mem_of_getElem? (i := 565) (by decide +kernel)⟩
def lw_privs_1 : List (MethodName × Nat) := [(⟨"PolyRegisters", "keepEarlier", "()V"⟩, 16), (⟨"PolyRegisters", "earlierBench", "()LPolyRegisters$Bench;"⟩, 16), (⟨"PolyRegisters$Bench", "placeAt", "(I)I"⟩, 4), (⟨"PolyRegisters", "told", "(Z)LPolyRegisters$Wide;"⟩, 16), (⟨"PolyRegisters$Desk", "times", "(LPolyRegisters$Poly;LPolyRegisters$Poly;LPolyRegisters$Poly;)Z"⟩, 8), (⟨"PolyRegisters$Wide", "gather", "(LPolyRegisters$Wide;)V"⟩, 3), (⟨"PolyRegisters$Wide", "isLess", "(LPolyRegisters$Wide;)Z"⟩, 3), (⟨"PolyRegisters$Wide", "differ", "(LPolyRegisters$Wide;LPolyRegisters$Wide;)V"⟩, 3), (⟨"PolyRegisters$Text", "putTerm", "(JI)V"⟩, 2), (⟨"PolyRegisters$Text", "put", "(I)V"⟩, 2), (⟨"PolyRegisters$Text", "putNumber", "(J)V"⟩, 2), (⟨"PolyRegisters$Reader", "readSum", "(I)V"⟩, 8), (⟨"PolyRegisters$Reader", "takes", "(C)Z"⟩, 8), (⟨"PolyRegisters$Reader", "skipBlanks", "()V"⟩, 8), (⟨"PolyRegisters$Reader", "readProduct", "(I)V"⟩, 8), (⟨"PolyRegisters$Reader", "readFactor", "(I)I"⟩, 8)]
theorem lw_r1 : ∀ q ∈ lw_privs_1, lw_okq q := List.forall_mem_cons.mpr ⟨lw_p0, List.forall_mem_cons.mpr ⟨lw_p1, List.forall_mem_cons.mpr ⟨lw_p2, List.forall_mem_cons.mpr ⟨lw_p3, List.forall_mem_cons.mpr ⟨lw_p4, List.forall_mem_cons.mpr ⟨lw_p5, List.forall_mem_cons.mpr ⟨lw_p6, List.forall_mem_cons.mpr ⟨lw_p7, List.forall_mem_cons.mpr ⟨lw_p8, List.forall_mem_cons.mpr ⟨lw_p9, List.forall_mem_cons.mpr ⟨lw_p10, List.forall_mem_cons.mpr ⟨lw_p11, List.forall_mem_cons.mpr ⟨lw_p12, List.forall_mem_cons.mpr ⟨lw_p13, List.forall_mem_cons.mpr ⟨lw_p14, List.forall_mem_cons.mpr ⟨lw_p15, fun _ h => absurd h List.not_mem_nil⟩⟩⟩⟩⟩⟩⟩⟩⟩⟩⟩⟩⟩⟩⟩⟩
theorem lw_p16 : lw_okq (⟨"PolyRegisters$Reader", "readNumber", "()J"⟩, 8) := ⟨⟨by decide +kernel, by decide +kernel⟩, List.mem_of_getElem? (i := 267) (by decide +kernel), List.mem_of_getElem? (i := 571) (by decide +kernel), List.mem_of_getElem? (i := 572) (by decide +kernel)⟩
theorem lw_p17 : lw_okq (⟨"PolyRegisters$Reader", "readExponent", "()I"⟩, 8) := ⟨⟨by decide +kernel, by decide +kernel⟩, List.mem_of_getElem? (i := 267) (by decide +kernel), List.mem_of_getElem? (i := 578) (by decide +kernel), List.mem_of_getElem? (i := 579) (by decide +kernel)⟩
theorem lw_p18 : lw_okq (⟨"PolyRegisters$Reader", "check", "(Z[J)V"⟩, 8) := ⟨⟨by decide +kernel, by decide +kernel⟩, List.mem_of_getElem? (i := 267) (by decide +kernel), List.mem_of_getElem? (i := 599) (by decide +kernel), List.mem_of_getElem? (i := 600) (by decide +kernel)⟩
theorem lw_p19 : lw_okq (⟨"java/lang/Throwable", "fillInStackTrace", "(I)Ljava/lang/Throwable;"⟩, 6) := ⟨⟨by decide +kernel, by decide +kernel⟩, List.mem_of_getElem? (i := 658) (by decide +kernel), List.mem_of_getElem? (i := 656) (by decide +kernel), List.mem_of_getElem? (i := 657) (by decide +kernel)⟩
theorem lw_p20 : lw_okq (⟨"PolyRegisters", "rowOf", "(I)[J"⟩, 16) := ⟨⟨by decide +kernel, by decide +kernel⟩, List.mem_of_getElem? (i := 25) (by decide +kernel), List.mem_of_getElem? (i := 708) (by decide +kernel), List.mem_of_getElem? (i := 709) (by decide +kernel)⟩
theorem lw_p21 : lw_okq (⟨"PolyRegisters", "keep", "(I)I"⟩, 16) := ⟨⟨by decide +kernel, by decide +kernel⟩, List.mem_of_getElem? (i := 25) (by decide +kernel), List.mem_of_getElem? (i := 749) (by decide +kernel), List.mem_of_getElem? (i := 750) (by decide +kernel)⟩
theorem lw_p22 : lw_okq (⟨"PolyRegisters$Sturm", "makeNext", "(LPolyRegisters$Poly;LPolyRegisters$Poly;LPolyRegisters$Poly;)V"⟩, 6) := ⟨⟨by decide +kernel, by decide +kernel⟩, List.mem_of_getElem? (i := 183) (by decide +kernel), List.mem_of_getElem? (i := 892) (by decide +kernel), List.mem_of_getElem? (i := 893) (by decide +kernel)⟩
theorem lw_p23 : lw_okq (⟨"PolyRegisters$Divisor", "guess", "(LPolyRegisters$Wide;I)J"⟩, 4) := ⟨⟨by decide +kernel, by decide +kernel⟩, List.mem_of_getElem? (i := 128) (by decide +kernel), List.mem_of_getElem? (i := 918) (by decide +kernel), List.mem_of_getElem? (i := 919) (by decide +kernel)⟩
theorem lw_p24 : lw_okq (⟨"PolyRegisters$Divisor", "takeAway", "(LPolyRegisters$Wide;IJ)Z"⟩, 4) := ⟨⟨by decide +kernel, by decide +kernel⟩, List.mem_of_getElem? (i := 128) (by decide +kernel), List.mem_of_getElem? (i := 922) (by decide +kernel), List.mem_of_getElem? (i := 923) (by decide +kernel)⟩
theorem lw_p25 : lw_okq (⟨"PolyRegisters$Divisor", "putBack", "(LPolyRegisters$Wide;I)V"⟩, 4) := ⟨⟨by decide +kernel, by decide +kernel⟩, List.mem_of_getElem? (i := 128) (by decide +kernel), List.mem_of_getElem? (i := 927) (by decide +kernel), List.mem_of_getElem? (i := 928) (by decide +kernel)⟩
theorem lw_p26 : lw_okq (⟨"PolyRegisters$Sturm", "renewKnown", "(I)V"⟩, 6) := ⟨⟨by decide +kernel, by decide +kernel⟩, List.mem_of_getElem? (i := 183) (by decide +kernel), List.mem_of_getElem? (i := 949) (by decide +kernel), List.mem_of_getElem? (i := 950) (by decide +kernel)⟩
theorem lw_p27 : lw_okq (⟨"PolyRegisters$Roots", "takePrimitive", "(LPolyRegisters$Poly;J)V"⟩, 12) := ⟨⟨by decide +kernel, by decide +kernel⟩, List.mem_of_getElem? (i := 215) (by decide +kernel), List.mem_of_getElem? (i := 961) (by decide +kernel), List.mem_of_getElem? (i := 962) (by decide +kernel)⟩
theorem lw_p28 : lw_okq (⟨"PolyRegisters", "tellLong", "(J)I"⟩, 16) := ⟨⟨by decide +kernel, by decide +kernel⟩, List.mem_of_getElem? (i := 25) (by decide +kernel), List.mem_of_getElem? (i := 1119) (by decide +kernel), List.mem_of_getElem? (i := 1120) (by decide +kernel)⟩
theorem lw_p29 : lw_okq (⟨"PolyRegisters", "tellQuotient", "(LPolyRegisters$Wide;JI)I"⟩, 16) := ⟨⟨by decide +kernel, by decide +kernel⟩, List.mem_of_getElem? (i := 25) (by decide +kernel), List.mem_of_getElem? (i := 1152) (by decide +kernel), List.mem_of_getElem? (i := 1153) (by decide +kernel)⟩
theorem lw_p30 : lw_okq (⟨"PolyRegistersModel", "sets", "(IJ)V"⟩, 16) := ⟨⟨by decide +kernel, by decide +kernel⟩, List.mem_of_getElem? (i := 1361) (by decide +kernel), List.mem_of_getElem? (i := 1372) (by decide +kernel), List.mem_of_getElem? (i := 1373) (by decide +kernel)⟩
theorem lw_p31 : lw_okq (⟨"PolyRegistersModel", "sums", "(IIII)I"⟩, 16) := ⟨⟨by decide +kernel, by decide +kernel⟩, List.mem_of_getElem? (i := 1361) (by decide +kernel), List.mem_of_getElem? (i := 1434) (by decide +kernel), List.mem_of_getElem? (i := 1435) (by decide +kernel)⟩
def lw_privs_2 : List (MethodName × Nat) := [(⟨"PolyRegisters$Reader", "readNumber", "()J"⟩, 8), (⟨"PolyRegisters$Reader", "readExponent", "()I"⟩, 8), (⟨"PolyRegisters$Reader", "check", "(Z[J)V"⟩, 8), (⟨"java/lang/Throwable", "fillInStackTrace", "(I)Ljava/lang/Throwable;"⟩, 6), (⟨"PolyRegisters", "rowOf", "(I)[J"⟩, 16), (⟨"PolyRegisters", "keep", "(I)I"⟩, 16), (⟨"PolyRegisters$Sturm", "makeNext", "(LPolyRegisters$Poly;LPolyRegisters$Poly;LPolyRegisters$Poly;)V"⟩, 6), (⟨"PolyRegisters$Divisor", "guess", "(LPolyRegisters$Wide;I)J"⟩, 4), (⟨"PolyRegisters$Divisor", "takeAway", "(LPolyRegisters$Wide;IJ)Z"⟩, 4), (⟨"PolyRegisters$Divisor", "putBack", "(LPolyRegisters$Wide;I)V"⟩, 4), (⟨"PolyRegisters$Sturm", "renewKnown", "(I)V"⟩, 6), (⟨"PolyRegisters$Roots", "takePrimitive", "(LPolyRegisters$Poly;J)V"⟩, 12), (⟨"PolyRegisters", "tellLong", "(J)I"⟩, 16), (⟨"PolyRegisters", "tellQuotient", "(LPolyRegisters$Wide;JI)I"⟩, 16), (⟨"PolyRegistersModel", "sets", "(IJ)V"⟩, 16), (⟨"PolyRegistersModel", "sums", "(IIII)I"⟩, 16)]
theorem lw_r2 : ∀ q ∈ lw_privs_2, lw_okq q := List.forall_mem_cons.mpr ⟨lw_p16, List.forall_mem_cons.mpr ⟨lw_p17, List.forall_mem_cons.mpr ⟨lw_p18, List.forall_mem_cons.mpr ⟨lw_p19, List.forall_mem_cons.mpr ⟨lw_p20, List.forall_mem_cons.mpr ⟨lw_p21, List.forall_mem_cons.mpr ⟨lw_p22, List.forall_mem_cons.mpr ⟨lw_p23, List.forall_mem_cons.mpr ⟨lw_p24, List.forall_mem_cons.mpr ⟨lw_p25, List.forall_mem_cons.mpr ⟨lw_p26, List.forall_mem_cons.mpr ⟨lw_p27, List.forall_mem_cons.mpr ⟨lw_p28, List.forall_mem_cons.mpr ⟨lw_p29, List.forall_mem_cons.mpr ⟨lw_p30, List.forall_mem_cons.mpr ⟨lw_p31, fun _ h => absurd h List.not_mem_nil⟩⟩⟩⟩⟩⟩⟩⟩⟩⟩⟩⟩⟩⟩⟩⟩
theorem lw_p32 : lw_okq (⟨"PolyRegistersModel", "fails", "(I)I"⟩, 16) := ⟨⟨by decide +kernel, by decide +kernel⟩, List.mem_of_getElem? (i := 1361) (by decide +kernel), List.mem_of_getElem? (i := 1448) (by decide +kernel), List.mem_of_getElem? (i := 1449) (by decide +kernel)⟩
theorem lw_p33 : lw_okq (⟨"PolyRegistersModel", "loads", "(II)V"⟩, 16) := ⟨⟨by decide +kernel, by decide +kernel⟩, List.mem_of_getElem? (i := 1361) (by decide +kernel), List.mem_of_getElem? (i := 1452) (by decide +kernel), List.mem_of_getElem? (i := 1453) (by decide +kernel)⟩
theorem lw_p34 : lw_okq (⟨"PolyRegistersModel", "addsPoly", "(IIII)V"⟩, 16) := ⟨⟨by decide +kernel, by decide +kernel⟩, List.mem_of_getElem? (i := 1361) (by decide +kernel), List.mem_of_getElem? (i := 1459) (by decide +kernel), List.mem_of_getElem? (i := 1460) (by decide +kernel)⟩
theorem lw_p35 : lw_okq (⟨"PolyRegistersModel", "adds", "(IIII)V"⟩, 16) := ⟨⟨by decide +kernel, by decide +kernel⟩, List.mem_of_getElem? (i := 1361) (by decide +kernel), List.mem_of_getElem? (i := 1463) (by decide +kernel), List.mem_of_getElem? (i := 1464) (by decide +kernel)⟩
theorem lw_p36 : lw_okq (⟨"PolyRegistersModel", "sign", "(I)I"⟩, 16) := ⟨⟨by decide +kernel, by decide +kernel⟩, List.mem_of_getElem? (i := 1361) (by decide +kernel), List.mem_of_getElem? (i := 1467) (by decide +kernel), List.mem_of_getElem? (i := 1468) (by decide +kernel)⟩
theorem lw_p37 : lw_okq (⟨"PolyRegistersModel", "copies", "(II)V"⟩, 16) := ⟨⟨by decide +kernel, by decide +kernel⟩, List.mem_of_getElem? (i := 1361) (by decide +kernel), List.mem_of_getElem? (i := 1471) (by decide +kernel), List.mem_of_getElem? (i := 1472) (by decide +kernel)⟩
theorem lw_p38 : lw_okq (⟨"PolyRegistersModel", "length", "(I)I"⟩, 16) := ⟨⟨by decide +kernel, by decide +kernel⟩, List.mem_of_getElem? (i := 1361) (by decide +kernel), List.mem_of_getElem? (i := 1475) (by decide +kernel), List.mem_of_getElem? (i := 1476) (by decide +kernel)⟩
theorem lw_p39 : lw_okq (⟨"PolyRegistersModel", "addsSizes", "(IIII)V"⟩, 16) := ⟨⟨by decide +kernel, by decide +kernel⟩, List.mem_of_getElem? (i := 1361) (by decide +kernel), List.mem_of_getElem? (i := 1482) (by decide +kernel), List.mem_of_getElem? (i := 1483) (by decide +kernel)⟩
theorem lw_p40 : lw_okq (⟨"PolyRegistersModel", "trims", "(II)V"⟩, 16) := ⟨⟨by decide +kernel, by decide +kernel⟩, List.mem_of_getElem? (i := 1361) (by decide +kernel), List.mem_of_getElem? (i := 1488) (by decide +kernel), List.mem_of_getElem? (i := 1489) (by decide +kernel)⟩
theorem lw_p41 : lw_okq (⟨"PolyRegistersModel", "comparesSizes", "(II)I"⟩, 16) := ⟨⟨by decide +kernel, by decide +kernel⟩, List.mem_of_getElem? (i := 1361) (by decide +kernel), List.mem_of_getElem? (i := 1492) (by decide +kernel), List.mem_of_getElem? (i := 1493) (by decide +kernel)⟩
theorem lw_p42 : lw_okq (⟨"PolyRegistersModel", "limb", "(II)I"⟩, 16) := ⟨⟨by decide +kernel, by decide +kernel⟩, List.mem_of_getElem? (i := 1361) (by decide +kernel), List.mem_of_getElem? (i := 1496) (by decide +kernel), List.mem_of_getElem? (i := 1497) (by decide +kernel)⟩
theorem lw_p43 : lw_okq (⟨"PolyRegistersModel", "takesSizes", "(IIII)V"⟩, 16) := ⟨⟨by decide +kernel, by decide +kernel⟩, List.mem_of_getElem? (i := 1361) (by decide +kernel), List.mem_of_getElem? (i := 1500) (by decide +kernel), List.mem_of_getElem? (i := 1501) (by decide +kernel)⟩
theorem lw_p44 : lw_okq (⟨"PolyRegistersModel", "puts", "(III)I"⟩, 16) := ⟨⟨by decide +kernel, by decide +kernel⟩, List.mem_of_getElem? (i := 1361) (by decide +kernel), List.mem_of_getElem? (i := 1504) (by decide +kernel), List.mem_of_getElem? (i := 1505) (by decide +kernel)⟩
theorem lw_p45 : lw_okq (⟨"PolyRegistersModel", "isInBounds", "(I)Z"⟩, 16) := ⟨⟨by decide +kernel, by decide +kernel⟩, List.mem_of_getElem? (i := 1361) (by decide +kernel), List.mem_of_getElem? (i := 1508) (by decide +kernel), List.mem_of_getElem? (i := 1509) (by decide +kernel)⟩
theorem lw_p46 : lw_okq (⟨"PolyRegistersModel", "keeps", "()V"⟩, 16) := ⟨⟨by decide +kernel, by decide +kernel⟩, List.mem_of_getElem? (i := 1361) (by decide +kernel), List.mem_of_getElem? (i := 1512) (by decide +kernel), List.mem_of_getElem? (i := 1513) (by decide +kernel)⟩
theorem lw_p47 : lw_okq (⟨"PolyRegistersModel", "stores", "(II)V"⟩, 16) := ⟨⟨by decide +kernel, by decide +kernel⟩, List.mem_of_getElem? (i := 1361) (by decide +kernel), List.mem_of_getElem? (i := 1516) (by decide +kernel), List.mem_of_getElem? (i := 1517) (by decide +kernel)⟩
def lw_privs_3 : List (MethodName × Nat) := [(⟨"PolyRegistersModel", "fails", "(I)I"⟩, 16), (⟨"PolyRegistersModel", "loads", "(II)V"⟩, 16), (⟨"PolyRegistersModel", "addsPoly", "(IIII)V"⟩, 16), (⟨"PolyRegistersModel", "adds", "(IIII)V"⟩, 16), (⟨"PolyRegistersModel", "sign", "(I)I"⟩, 16), (⟨"PolyRegistersModel", "copies", "(II)V"⟩, 16), (⟨"PolyRegistersModel", "length", "(I)I"⟩, 16), (⟨"PolyRegistersModel", "addsSizes", "(IIII)V"⟩, 16), (⟨"PolyRegistersModel", "trims", "(II)V"⟩, 16), (⟨"PolyRegistersModel", "comparesSizes", "(II)I"⟩, 16), (⟨"PolyRegistersModel", "limb", "(II)I"⟩, 16), (⟨"PolyRegistersModel", "takesSizes", "(IIII)V"⟩, 16), (⟨"PolyRegistersModel", "puts", "(III)I"⟩, 16), (⟨"PolyRegistersModel", "isInBounds", "(I)Z"⟩, 16), (⟨"PolyRegistersModel", "keeps", "()V"⟩, 16), (⟨"PolyRegistersModel", "stores", "(II)V"⟩, 16)]
theorem lw_r3 : ∀ q ∈ lw_privs_3, lw_okq q := List.forall_mem_cons.mpr ⟨lw_p32, List.forall_mem_cons.mpr ⟨lw_p33, List.forall_mem_cons.mpr ⟨lw_p34, List.forall_mem_cons.mpr ⟨lw_p35, List.forall_mem_cons.mpr ⟨lw_p36, List.forall_mem_cons.mpr ⟨lw_p37, List.forall_mem_cons.mpr ⟨lw_p38, List.forall_mem_cons.mpr ⟨lw_p39, List.forall_mem_cons.mpr ⟨lw_p40, List.forall_mem_cons.mpr ⟨lw_p41, List.forall_mem_cons.mpr ⟨lw_p42, List.forall_mem_cons.mpr ⟨lw_p43, List.forall_mem_cons.mpr ⟨lw_p44, List.forall_mem_cons.mpr ⟨lw_p45, List.forall_mem_cons.mpr ⟨lw_p46, List.forall_mem_cons.mpr ⟨lw_p47, fun _ h => absurd h List.not_mem_nil⟩⟩⟩⟩⟩⟩⟩⟩⟩⟩⟩⟩⟩⟩⟩⟩
theorem lw_p48 : lw_okq (⟨"PolyRegistersModel", "asLong", "(I)J"⟩, 16) := ⟨⟨by decide +kernel, by decide +kernel⟩, List.mem_of_getElem? (i := 1361) (by decide +kernel), List.mem_of_getElem? (i := 1520) (by decide +kernel), List.mem_of_getElem? (i := 1521) (by decide +kernel)⟩
theorem lw_p49 : lw_okq (⟨"PolyRegistersModel", "degreeOf", "(I)I"⟩, 16) := ⟨⟨by decide +kernel, by decide +kernel⟩, List.mem_of_getElem? (i := 1361) (by decide +kernel), List.mem_of_getElem? (i := 1524) (by decide +kernel), List.mem_of_getElem? (i := 1525) (by decide +kernel)⟩
theorem lw_p50 : lw_okq (⟨"PolyRegistersModel", "isTooHigh", "(II)Z"⟩, 16) := ⟨⟨by decide +kernel, by decide +kernel⟩, List.mem_of_getElem? (i := 1361) (by decide +kernel), List.mem_of_getElem? (i := 1536) (by decide +kernel), List.mem_of_getElem? (i := 1537) (by decide +kernel)⟩
theorem lw_p51 : lw_okq (⟨"PolyRegistersModel", "multipliesPoly", "(III)V"⟩, 16) := ⟨⟨by decide +kernel, by decide +kernel⟩, List.mem_of_getElem? (i := 1361) (by decide +kernel), List.mem_of_getElem? (i := 1540) (by decide +kernel), List.mem_of_getElem? (i := 1541) (by decide +kernel)⟩
theorem lw_p52 : lw_okq (⟨"PolyRegistersModel", "empties", "(I)V"⟩, 16) := ⟨⟨by decide +kernel, by decide +kernel⟩, List.mem_of_getElem? (i := 1361) (by decide +kernel), List.mem_of_getElem? (i := 1544) (by decide +kernel), List.mem_of_getElem? (i := 1545) (by decide +kernel)⟩
theorem lw_p53 : lw_okq (⟨"PolyRegistersModel", "multiplies", "(III)V"⟩, 16) := ⟨⟨by decide +kernel, by decide +kernel⟩, List.mem_of_getElem? (i := 1361) (by decide +kernel), List.mem_of_getElem? (i := 1548) (by decide +kernel), List.mem_of_getElem? (i := 1549) (by decide +kernel)⟩
theorem lw_p54 : lw_okq (⟨"PolyRegistersModel", "raises", "(III)Z"⟩, 16) := ⟨⟨by decide +kernel, by decide +kernel⟩, List.mem_of_getElem? (i := 1361) (by decide +kernel), List.mem_of_getElem? (i := 1557) (by decide +kernel), List.mem_of_getElem? (i := 1558) (by decide +kernel)⟩
theorem lw_p55 : lw_okq (⟨"PolyRegistersModel", "copiesPoly", "(II)V"⟩, 16) := ⟨⟨by decide +kernel, by decide +kernel⟩, List.mem_of_getElem? (i := 1361) (by decide +kernel), List.mem_of_getElem? (i := 1561) (by decide +kernel), List.mem_of_getElem? (i := 1562) (by decide +kernel)⟩
theorem lw_p56 : lw_okq (⟨"PolyRegistersModel", "derives", "(II)V"⟩, 16) := ⟨⟨by decide +kernel, by decide +kernel⟩, List.mem_of_getElem? (i := 1361) (by decide +kernel), List.mem_of_getElem? (i := 1569) (by decide +kernel), List.mem_of_getElem? (i := 1570) (by decide +kernel)⟩
theorem lw_p57 : lw_okq (⟨"PolyRegistersModel", "isZero", "(I)Z"⟩, 16) := ⟨⟨by decide +kernel, by decide +kernel⟩, List.mem_of_getElem? (i := 1361) (by decide +kernel), List.mem_of_getElem? (i := 1581) (by decide +kernel), List.mem_of_getElem? (i := 1582) (by decide +kernel)⟩
theorem lw_p58 : lw_okq (⟨"PolyRegistersModel", "degreeIn", "(I)I"⟩, 16) := ⟨⟨by decide +kernel, by decide +kernel⟩, List.mem_of_getElem? (i := 1361) (by decide +kernel), List.mem_of_getElem? (i := 1585) (by decide +kernel), List.mem_of_getElem? (i := 1586) (by decide +kernel)⟩
theorem lw_p59 : lw_okq (⟨"PolyRegistersModel", "dividesPoly", "(IIII)I"⟩, 16) := ⟨⟨by decide +kernel, by decide +kernel⟩, List.mem_of_getElem? (i := 1361) (by decide +kernel), List.mem_of_getElem? (i := 1589) (by decide +kernel), List.mem_of_getElem? (i := 1590) (by decide +kernel)⟩
theorem lw_p60 : lw_okq (⟨"PolyRegistersModel", "contents", "(II)V"⟩, 16) := ⟨⟨by decide +kernel, by decide +kernel⟩, List.mem_of_getElem? (i := 1361) (by decide +kernel), List.mem_of_getElem? (i := 1597) (by decide +kernel), List.mem_of_getElem? (i := 1598) (by decide +kernel)⟩
theorem lw_p61 : lw_okq (⟨"PolyRegistersModel", "commons", "(III)V"⟩, 16) := ⟨⟨by decide +kernel, by decide +kernel⟩, List.mem_of_getElem? (i := 1361) (by decide +kernel), List.mem_of_getElem? (i := 1601) (by decide +kernel), List.mem_of_getElem? (i := 1602) (by decide +kernel)⟩
theorem lw_p62 : lw_okq (⟨"PolyRegistersModel", "cuts", "(IIII)V"⟩, 16) := ⟨⟨by decide +kernel, by decide +kernel⟩, List.mem_of_getElem? (i := 1361) (by decide +kernel), List.mem_of_getElem? (i := 1605) (by decide +kernel), List.mem_of_getElem? (i := 1606) (by decide +kernel)⟩
theorem lw_p63 : lw_okq (⟨"PolyRegistersModel", "dividesLimb", "(II)I"⟩, 16) := ⟨⟨by decide +kernel, by decide +kernel⟩, List.mem_of_getElem? (i := 1361) (by decide +kernel), List.mem_of_getElem? (i := 1612) (by decide +kernel), List.mem_of_getElem? (i := 1613) (by decide +kernel)⟩
def lw_privs_4 : List (MethodName × Nat) := [(⟨"PolyRegistersModel", "asLong", "(I)J"⟩, 16), (⟨"PolyRegistersModel", "degreeOf", "(I)I"⟩, 16), (⟨"PolyRegistersModel", "isTooHigh", "(II)Z"⟩, 16), (⟨"PolyRegistersModel", "multipliesPoly", "(III)V"⟩, 16), (⟨"PolyRegistersModel", "empties", "(I)V"⟩, 16), (⟨"PolyRegistersModel", "multiplies", "(III)V"⟩, 16), (⟨"PolyRegistersModel", "raises", "(III)Z"⟩, 16), (⟨"PolyRegistersModel", "copiesPoly", "(II)V"⟩, 16), (⟨"PolyRegistersModel", "derives", "(II)V"⟩, 16), (⟨"PolyRegistersModel", "isZero", "(I)Z"⟩, 16), (⟨"PolyRegistersModel", "degreeIn", "(I)I"⟩, 16), (⟨"PolyRegistersModel", "dividesPoly", "(IIII)I"⟩, 16), (⟨"PolyRegistersModel", "contents", "(II)V"⟩, 16), (⟨"PolyRegistersModel", "commons", "(III)V"⟩, 16), (⟨"PolyRegistersModel", "cuts", "(IIII)V"⟩, 16), (⟨"PolyRegistersModel", "dividesLimb", "(II)I"⟩, 16)]
theorem lw_r4 : ∀ q ∈ lw_privs_4, lw_okq q := List.forall_mem_cons.mpr ⟨lw_p48, List.forall_mem_cons.mpr ⟨lw_p49, List.forall_mem_cons.mpr ⟨lw_p50, List.forall_mem_cons.mpr ⟨lw_p51, List.forall_mem_cons.mpr ⟨lw_p52, List.forall_mem_cons.mpr ⟨lw_p53, List.forall_mem_cons.mpr ⟨lw_p54, List.forall_mem_cons.mpr ⟨lw_p55, List.forall_mem_cons.mpr ⟨lw_p56, List.forall_mem_cons.mpr ⟨lw_p57, List.forall_mem_cons.mpr ⟨lw_p58, List.forall_mem_cons.mpr ⟨lw_p59, List.forall_mem_cons.mpr ⟨lw_p60, List.forall_mem_cons.mpr ⟨lw_p61, List.forall_mem_cons.mpr ⟨lw_p62, List.forall_mem_cons.mpr ⟨lw_p63, fun _ h => absurd h List.not_mem_nil⟩⟩⟩⟩⟩⟩⟩⟩⟩⟩⟩⟩⟩⟩⟩⟩
theorem lw_p64 : lw_okq (⟨"PolyRegistersModel", "commonsPoly", "(III)V"⟩, 16) := ⟨⟨by decide +kernel, by decide +kernel⟩, List.mem_of_getElem? (i := 1361) (by decide +kernel), List.mem_of_getElem? (i := 1616) (by decide +kernel), List.mem_of_getElem? (i := 1617) (by decide +kernel)⟩
theorem lw_p65 : lw_okq (⟨"PolyRegistersModel", "makesPrimitive", "(I)V"⟩, 16) := ⟨⟨by decide +kernel, by decide +kernel⟩, List.mem_of_getElem? (i := 1361) (by decide +kernel), List.mem_of_getElem? (i := 1620) (by decide +kernel), List.mem_of_getElem? (i := 1621) (by decide +kernel)⟩
theorem lw_p66 : lw_okq (⟨"PolyRegistersModel", "shrinks", "(I)V"⟩, 16) := ⟨⟨by decide +kernel, by decide +kernel⟩, List.mem_of_getElem? (i := 1361) (by decide +kernel), List.mem_of_getElem? (i := 1624) (by decide +kernel), List.mem_of_getElem? (i := 1625) (by decide +kernel)⟩
theorem lw_p67 : lw_okq (⟨"PolyRegistersModel", "exact", "(II)V"⟩, 16) := ⟨⟨by decide +kernel, by decide +kernel⟩, List.mem_of_getElem? (i := 1361) (by decide +kernel), List.mem_of_getElem? (i := 1628) (by decide +kernel), List.mem_of_getElem? (i := 1629) (by decide +kernel)⟩
theorem lw_p68 : lw_okq (⟨"PolyRegistersModel", "negates", "(I)V"⟩, 16) := ⟨⟨by decide +kernel, by decide +kernel⟩, List.mem_of_getElem? (i := 1361) (by decide +kernel), List.mem_of_getElem? (i := 1632) (by decide +kernel), List.mem_of_getElem? (i := 1633) (by decide +kernel)⟩
theorem lw_p69 : lw_okq (⟨"PolyRegistersModel", "simplifies", "(II)V"⟩, 16) := ⟨⟨by decide +kernel, by decide +kernel⟩, List.mem_of_getElem? (i := 1361) (by decide +kernel), List.mem_of_getElem? (i := 1644) (by decide +kernel), List.mem_of_getElem? (i := 1645) (by decide +kernel)⟩
theorem lw_p70 : lw_okq (⟨"PolyRegistersModel", "dividesExactly", "(III)Z"⟩, 16) := ⟨⟨by decide +kernel, by decide +kernel⟩, List.mem_of_getElem? (i := 1361) (by decide +kernel), List.mem_of_getElem? (i := 1648) (by decide +kernel), List.mem_of_getElem? (i := 1649) (by decide +kernel)⟩
theorem lw_p71 : lw_okq (⟨"PolyRegistersModel", "rest", "(III)J"⟩, 16) := ⟨⟨by decide +kernel, by decide +kernel⟩, List.mem_of_getElem? (i := 1361) (by decide +kernel), List.mem_of_getElem? (i := 1661) (by decide +kernel), List.mem_of_getElem? (i := 1662) (by decide +kernel)⟩
theorem lw_p72 : lw_okq (⟨"PolyRegistersModel", "readsSum", "()Z"⟩, 16) := ⟨⟨by decide +kernel, by decide +kernel⟩, List.mem_of_getElem? (i := 1361) (by decide +kernel), List.mem_of_getElem? (i := 1675) (by decide +kernel), List.mem_of_getElem? (i := 1676) (by decide +kernel)⟩
theorem lw_p73 : lw_okq (⟨"PolyRegistersModel", "takes", "(I)Z"⟩, 16) := ⟨⟨by decide +kernel, by decide +kernel⟩, List.mem_of_getElem? (i := 1361) (by decide +kernel), List.mem_of_getElem? (i := 1679) (by decide +kernel), List.mem_of_getElem? (i := 1680) (by decide +kernel)⟩
theorem lw_p74 : lw_okq (⟨"PolyRegistersModel", "skips", "()V"⟩, 16) := ⟨⟨by decide +kernel, by decide +kernel⟩, List.mem_of_getElem? (i := 1361) (by decide +kernel), List.mem_of_getElem? (i := 1683) (by decide +kernel), List.mem_of_getElem? (i := 1684) (by decide +kernel)⟩
theorem lw_p75 : lw_okq (⟨"PolyRegistersModel", "readsProduct", "()Z"⟩, 16) := ⟨⟨by decide +kernel, by decide +kernel⟩, List.mem_of_getElem? (i := 1361) (by decide +kernel), List.mem_of_getElem? (i := 1687) (by decide +kernel), List.mem_of_getElem? (i := 1688) (by decide +kernel)⟩
theorem lw_p76 : lw_okq (⟨"PolyRegistersModel", "readsPower", "()Z"⟩, 16) := ⟨⟨by decide +kernel, by decide +kernel⟩, List.mem_of_getElem? (i := 1361) (by decide +kernel), List.mem_of_getElem? (i := 1691) (by decide +kernel), List.mem_of_getElem? (i := 1692) (by decide +kernel)⟩
theorem lw_p77 : lw_okq (⟨"PolyRegistersModel", "errs", "(I)Z"⟩, 16) := ⟨⟨by decide +kernel, by decide +kernel⟩, List.mem_of_getElem? (i := 1361) (by decide +kernel), List.mem_of_getElem? (i := 1695) (by decide +kernel), List.mem_of_getElem? (i := 1696) (by decide +kernel)⟩
theorem lw_p78 : lw_okq (⟨"PolyRegistersModel", "readsNumber", "(J)Z"⟩, 16) := ⟨⟨by decide +kernel, by decide +kernel⟩, List.mem_of_getElem? (i := 1361) (by decide +kernel), List.mem_of_getElem? (i := 1700) (by decide +kernel), List.mem_of_getElem? (i := 1701) (by decide +kernel)⟩
theorem lw_p79 : lw_okq (⟨"PolyRegistersModel", "readsEnd", "()Z"⟩, 16) := ⟨⟨by decide +kernel, by decide +kernel⟩, List.mem_of_getElem? (i := 1361) (by decide +kernel), List.mem_of_getElem? (i := 1710) (by decide +kernel), List.mem_of_getElem? (i := 1711) (by decide +kernel)⟩
def lw_privs_5 : List (MethodName × Nat) := [(⟨"PolyRegistersModel", "commonsPoly", "(III)V"⟩, 16), (⟨"PolyRegistersModel", "makesPrimitive", "(I)V"⟩, 16), (⟨"PolyRegistersModel", "shrinks", "(I)V"⟩, 16), (⟨"PolyRegistersModel", "exact", "(II)V"⟩, 16), (⟨"PolyRegistersModel", "negates", "(I)V"⟩, 16), (⟨"PolyRegistersModel", "simplifies", "(II)V"⟩, 16), (⟨"PolyRegistersModel", "dividesExactly", "(III)Z"⟩, 16), (⟨"PolyRegistersModel", "rest", "(III)J"⟩, 16), (⟨"PolyRegistersModel", "readsSum", "()Z"⟩, 16), (⟨"PolyRegistersModel", "takes", "(I)Z"⟩, 16), (⟨"PolyRegistersModel", "skips", "()V"⟩, 16), (⟨"PolyRegistersModel", "readsProduct", "()Z"⟩, 16), (⟨"PolyRegistersModel", "readsPower", "()Z"⟩, 16), (⟨"PolyRegistersModel", "errs", "(I)Z"⟩, 16), (⟨"PolyRegistersModel", "readsNumber", "(J)Z"⟩, 16), (⟨"PolyRegistersModel", "readsEnd", "()Z"⟩, 16)]
theorem lw_r5 : ∀ q ∈ lw_privs_5, lw_okq q := List.forall_mem_cons.mpr ⟨lw_p64, List.forall_mem_cons.mpr ⟨lw_p65, List.forall_mem_cons.mpr ⟨lw_p66, List.forall_mem_cons.mpr ⟨lw_p67, List.forall_mem_cons.mpr ⟨lw_p68, List.forall_mem_cons.mpr ⟨lw_p69, List.forall_mem_cons.mpr ⟨lw_p70, List.forall_mem_cons.mpr ⟨lw_p71, List.forall_mem_cons.mpr ⟨lw_p72, List.forall_mem_cons.mpr ⟨lw_p73, List.forall_mem_cons.mpr ⟨lw_p74, List.forall_mem_cons.mpr ⟨lw_p75, List.forall_mem_cons.mpr ⟨lw_p76, List.forall_mem_cons.mpr ⟨lw_p77, List.forall_mem_cons.mpr ⟨lw_p78, List.forall_mem_cons.mpr ⟨lw_p79, fun _ h => absurd h List.not_mem_nil⟩⟩⟩⟩⟩⟩⟩⟩⟩⟩⟩⟩⟩⟩⟩⟩
theorem lw_p80 : lw_okq (⟨"PolyRegistersModel", "worksSum", "(I)V"⟩, 16) := ⟨⟨by decide +kernel, by decide +kernel⟩, List.mem_of_getElem? (i := 1361) (by decide +kernel), List.mem_of_getElem? (i := 1714) (by decide +kernel), List.mem_of_getElem? (i := 1715) (by decide +kernel)⟩
theorem lw_p81 : lw_okq (⟨"PolyRegistersModel", "worksProduct", "(I)V"⟩, 16) := ⟨⟨by decide +kernel, by decide +kernel⟩, List.mem_of_getElem? (i := 1361) (by decide +kernel), List.mem_of_getElem? (i := 1718) (by decide +kernel), List.mem_of_getElem? (i := 1719) (by decide +kernel)⟩
theorem lw_p82 : lw_okq (⟨"PolyRegistersModel", "worksPower", "(I)V"⟩, 16) := ⟨⟨by decide +kernel, by decide +kernel⟩, List.mem_of_getElem? (i := 1361) (by decide +kernel), List.mem_of_getElem? (i := 1722) (by decide +kernel), List.mem_of_getElem? (i := 1723) (by decide +kernel)⟩
theorem lw_p83 : lw_okq (⟨"PolyRegistersModel", "number", "()J"⟩, 16) := ⟨⟨by decide +kernel, by decide +kernel⟩, List.mem_of_getElem? (i := 1361) (by decide +kernel), List.mem_of_getElem? (i := 1726) (by decide +kernel), List.mem_of_getElem? (i := 1727) (by decide +kernel)⟩
theorem lw_p84 : lw_okq (⟨"PolyRegistersModel", "bounds", "(I)V"⟩, 16) := ⟨⟨by decide +kernel, by decide +kernel⟩, List.mem_of_getElem? (i := 1361) (by decide +kernel), List.mem_of_getElem? (i := 1730) (by decide +kernel), List.mem_of_getElem? (i := 1731) (by decide +kernel)⟩
theorem lw_p85 : lw_okq (⟨"PolyRegistersModel", "differences", "(I)J"⟩, 16) := ⟨⟨by decide +kernel, by decide +kernel⟩, List.mem_of_getElem? (i := 1361) (by decide +kernel), List.mem_of_getElem? (i := 1750) (by decide +kernel), List.mem_of_getElem? (i := 1751) (by decide +kernel)⟩
theorem lw_p86 : lw_okq (⟨"PolyRegistersModel", "laysProduct", "(I)V"⟩, 16) := ⟨⟨by decide +kernel, by decide +kernel⟩, List.mem_of_getElem? (i := 1361) (by decide +kernel), List.mem_of_getElem? (i := 1757) (by decide +kernel), List.mem_of_getElem? (i := 1758) (by decide +kernel)⟩
theorem lw_p87 : lw_okq (⟨"PolyRegistersModel", "termsOf", "(I)I"⟩, 16) := ⟨⟨by decide +kernel, by decide +kernel⟩, List.mem_of_getElem? (i := 1361) (by decide +kernel), List.mem_of_getElem? (i := 1773) (by decide +kernel), List.mem_of_getElem? (i := 1774) (by decide +kernel)⟩
theorem lw_p88 : lw_okq (⟨"PolyRegistersModel", "tellsWhole", "(I)I"⟩, 16) := ⟨⟨by decide +kernel, by decide +kernel⟩, List.mem_of_getElem? (i := 1361) (by decide +kernel), List.mem_of_getElem? (i := 1785) (by decide +kernel), List.mem_of_getElem? (i := 1786) (by decide +kernel)⟩
theorem lw_p89 : lw_okq (⟨"PolyRegistersModel", "setsFraction", "(II)V"⟩, 16) := ⟨⟨by decide +kernel, by decide +kernel⟩, List.mem_of_getElem? (i := 1361) (by decide +kernel), List.mem_of_getElem? (i := 1802) (by decide +kernel), List.mem_of_getElem? (i := 1803) (by decide +kernel)⟩
theorem lw_p90 : lw_okq (⟨"PolyRegistersModel", "valueAt", "(I)I"⟩, 16) := ⟨⟨by decide +kernel, by decide +kernel⟩, List.mem_of_getElem? (i := 1361) (by decide +kernel), List.mem_of_getElem? (i := 1806) (by decide +kernel), List.mem_of_getElem? (i := 1807) (by decide +kernel)⟩
theorem lw_p91 : lw_okq (⟨"PolyRegistersModel", "tells", "(II)I"⟩, 16) := ⟨⟨by decide +kernel, by decide +kernel⟩, List.mem_of_getElem? (i := 1361) (by decide +kernel), List.mem_of_getElem? (i := 1810) (by decide +kernel), List.mem_of_getElem? (i := 1811) (by decide +kernel)⟩
theorem lw_p92 : lw_okq (⟨"PolyRegistersModel", "isSame", "(II)Z"⟩, 16) := ⟨⟨by decide +kernel, by decide +kernel⟩, List.mem_of_getElem? (i := 1361) (by decide +kernel), List.mem_of_getElem? (i := 1822) (by decide +kernel), List.mem_of_getElem? (i := 1823) (by decide +kernel)⟩
theorem lw_p93 : lw_okq (⟨"PolyRegistersModel", "compares", "(II)I"⟩, 16) := ⟨⟨by decide +kernel, by decide +kernel⟩, List.mem_of_getElem? (i := 1361) (by decide +kernel), List.mem_of_getElem? (i := 1830) (by decide +kernel), List.mem_of_getElem? (i := 1831) (by decide +kernel)⟩
theorem lw_p94 : lw_okq (⟨"PolyRegistersModel", "digitsOf", "(I)I"⟩, 16) := ⟨⟨by decide +kernel, by decide +kernel⟩, List.mem_of_getElem? (i := 1361) (by decide +kernel), List.mem_of_getElem? (i := 1841) (by decide +kernel), List.mem_of_getElem? (i := 1842) (by decide +kernel)⟩
theorem lw_p95 : lw_okq (⟨"PolyRegistersModel", "laysRow", "(I)V"⟩, 16) := ⟨⟨by decide +kernel, by decide +kernel⟩, List.mem_of_getElem? (i := 1361) (by decide +kernel), List.mem_of_getElem? (i := 1857) (by decide +kernel), List.mem_of_getElem? (i := 1858) (by decide +kernel)⟩
def lw_privs_6 : List (MethodName × Nat) := [(⟨"PolyRegistersModel", "worksSum", "(I)V"⟩, 16), (⟨"PolyRegistersModel", "worksProduct", "(I)V"⟩, 16), (⟨"PolyRegistersModel", "worksPower", "(I)V"⟩, 16), (⟨"PolyRegistersModel", "number", "()J"⟩, 16), (⟨"PolyRegistersModel", "bounds", "(I)V"⟩, 16), (⟨"PolyRegistersModel", "differences", "(I)J"⟩, 16), (⟨"PolyRegistersModel", "laysProduct", "(I)V"⟩, 16), (⟨"PolyRegistersModel", "termsOf", "(I)I"⟩, 16), (⟨"PolyRegistersModel", "tellsWhole", "(I)I"⟩, 16), (⟨"PolyRegistersModel", "setsFraction", "(II)V"⟩, 16), (⟨"PolyRegistersModel", "valueAt", "(I)I"⟩, 16), (⟨"PolyRegistersModel", "tells", "(II)I"⟩, 16), (⟨"PolyRegistersModel", "isSame", "(II)Z"⟩, 16), (⟨"PolyRegistersModel", "compares", "(II)I"⟩, 16), (⟨"PolyRegistersModel", "digitsOf", "(I)I"⟩, 16), (⟨"PolyRegistersModel", "laysRow", "(I)V"⟩, 16)]
theorem lw_r6 : ∀ q ∈ lw_privs_6, lw_okq q := List.forall_mem_cons.mpr ⟨lw_p80, List.forall_mem_cons.mpr ⟨lw_p81, List.forall_mem_cons.mpr ⟨lw_p82, List.forall_mem_cons.mpr ⟨lw_p83, List.forall_mem_cons.mpr ⟨lw_p84, List.forall_mem_cons.mpr ⟨lw_p85, List.forall_mem_cons.mpr ⟨lw_p86, List.forall_mem_cons.mpr ⟨lw_p87, List.forall_mem_cons.mpr ⟨lw_p88, List.forall_mem_cons.mpr ⟨lw_p89, List.forall_mem_cons.mpr ⟨lw_p90, List.forall_mem_cons.mpr ⟨lw_p91, List.forall_mem_cons.mpr ⟨lw_p92, List.forall_mem_cons.mpr ⟨lw_p93, List.forall_mem_cons.mpr ⟨lw_p94, List.forall_mem_cons.mpr ⟨lw_p95, fun _ h => absurd h List.not_mem_nil⟩⟩⟩⟩⟩⟩⟩⟩⟩⟩⟩⟩⟩⟩⟩⟩
theorem lw_p96 : lw_okq (⟨"PolyRegistersModel", "rootsOf", "()I"⟩, 16) := ⟨⟨by decide +kernel, by decide +kernel⟩, List.mem_of_getElem? (i := 1361) (by decide +kernel), List.mem_of_getElem? (i := 1861) (by decide +kernel), List.mem_of_getElem? (i := 1862) (by decide +kernel)⟩
theorem lw_p97 : lw_okq (⟨"PolyRegistersModel", "changesAt", "(I)I"⟩, 16) := ⟨⟨by decide +kernel, by decide +kernel⟩, List.mem_of_getElem? (i := 1361) (by decide +kernel), List.mem_of_getElem? (i := 1865) (by decide +kernel), List.mem_of_getElem? (i := 1866) (by decide +kernel)⟩
theorem lw_p98 : lw_okq (⟨"PolyRegistersModel", "laysSimpleRow", "(I)I"⟩, 16) := ⟨⟨by decide +kernel, by decide +kernel⟩, List.mem_of_getElem? (i := 1361) (by decide +kernel), List.mem_of_getElem? (i := 1885) (by decide +kernel), List.mem_of_getElem? (i := 1886) (by decide +kernel)⟩
theorem lw_p99 : lw_okq (⟨"PolyRegistersModel", "closes", "(I)V"⟩, 16) := ⟨⟨by decide +kernel, by decide +kernel⟩, List.mem_of_getElem? (i := 1361) (by decide +kernel), List.mem_of_getElem? (i := 1890) (by decide +kernel), List.mem_of_getElem? (i := 1891) (by decide +kernel)⟩
theorem lw_p100 : lw_okq (⟨"PolyRegistersModel", "laysStep", "()I"⟩, 16) := ⟨⟨by decide +kernel, by decide +kernel⟩, List.mem_of_getElem? (i := 1361) (by decide +kernel), List.mem_of_getElem? (i := 1894) (by decide +kernel), List.mem_of_getElem? (i := 1895) (by decide +kernel)⟩
theorem lw_p101 : lw_okq (⟨"PolyRegistersModel", "isFractionRoot", "(I)Z"⟩, 16) := ⟨⟨by decide +kernel, by decide +kernel⟩, List.mem_of_getElem? (i := 1361) (by decide +kernel), List.mem_of_getElem? (i := 1903) (by decide +kernel), List.mem_of_getElem? (i := 1904) (by decide +kernel)⟩
theorem lw_p102 : lw_okq (⟨"PolyRegistersModel", "isRootBy", "(III)Z"⟩, 16) := ⟨⟨by decide +kernel, by decide +kernel⟩, List.mem_of_getElem? (i := 1361) (by decide +kernel), List.mem_of_getElem? (i := 1915) (by decide +kernel), List.mem_of_getElem? (i := 1916) (by decide +kernel)⟩
theorem lw_p103 : lw_okq (⟨"PolyRegistersModel", "byteOf", "(IIIIII)I"⟩, 16) := ⟨⟨by decide +kernel, by decide +kernel⟩, List.mem_of_getElem? (i := 1361) (by decide +kernel), List.mem_of_getElem? (i := 1931) (by decide +kernel), List.mem_of_getElem? (i := 1932) (by decide +kernel)⟩
theorem lw_p104 : lw_okq (⟨"PolyRegistersModel", "writes", "(I)V"⟩, 16) := ⟨⟨by decide +kernel, by decide +kernel⟩, List.mem_of_getElem? (i := 1361) (by decide +kernel), List.mem_of_getElem? (i := 1947) (by decide +kernel), List.mem_of_getElem? (i := 1948) (by decide +kernel)⟩
theorem lw_p105 : lw_okq (⟨"PolyRegistersModel", "writesTerm", "(JI)V"⟩, 16) := ⟨⟨by decide +kernel, by decide +kernel⟩, List.mem_of_getElem? (i := 1361) (by decide +kernel), List.mem_of_getElem? (i := 1951) (by decide +kernel), List.mem_of_getElem? (i := 1952) (by decide +kernel)⟩
theorem lw_p106 : lw_okq (⟨"PolyRegistersModel", "writesNumber", "(J)V"⟩, 16) := ⟨⟨by decide +kernel, by decide +kernel⟩, List.mem_of_getElem? (i := 1361) (by decide +kernel), List.mem_of_getElem? (i := 1955) (by decide +kernel), List.mem_of_getElem? (i := 1956) (by decide +kernel)⟩
def lw_privs_7 : List (MethodName × Nat) := [(⟨"PolyRegistersModel", "rootsOf", "()I"⟩, 16), (⟨"PolyRegistersModel", "changesAt", "(I)I"⟩, 16), (⟨"PolyRegistersModel", "laysSimpleRow", "(I)I"⟩, 16), (⟨"PolyRegistersModel", "closes", "(I)V"⟩, 16), (⟨"PolyRegistersModel", "laysStep", "()I"⟩, 16), (⟨"PolyRegistersModel", "isFractionRoot", "(I)Z"⟩, 16), (⟨"PolyRegistersModel", "isRootBy", "(III)Z"⟩, 16), (⟨"PolyRegistersModel", "byteOf", "(IIIIII)I"⟩, 16), (⟨"PolyRegistersModel", "writes", "(I)V"⟩, 16), (⟨"PolyRegistersModel", "writesTerm", "(JI)V"⟩, 16), (⟨"PolyRegistersModel", "writesNumber", "(J)V"⟩, 16)]
theorem lw_r7 : ∀ q ∈ lw_privs_7, lw_okq q := List.forall_mem_cons.mpr ⟨lw_p96, List.forall_mem_cons.mpr ⟨lw_p97, List.forall_mem_cons.mpr ⟨lw_p98, List.forall_mem_cons.mpr ⟨lw_p99, List.forall_mem_cons.mpr ⟨lw_p100, List.forall_mem_cons.mpr ⟨lw_p101, List.forall_mem_cons.mpr ⟨lw_p102, List.forall_mem_cons.mpr ⟨lw_p103, List.forall_mem_cons.mpr ⟨lw_p104, List.forall_mem_cons.mpr ⟨lw_p105, List.forall_mem_cons.mpr ⟨lw_p106, fun _ h => absurd h List.not_mem_nil⟩⟩⟩⟩⟩⟩⟩⟩⟩⟩⟩
def lw_privs : List (MethodName × Nat) := lw_privs_1 ++ (lw_privs_2 ++ (lw_privs_3 ++ (lw_privs_4 ++ (lw_privs_5 ++ (lw_privs_6 ++ (lw_privs_7))))))
def lw_tbl : List Cond := k2_sels lw_privs ++ tables_1
theorem lw_privs_ok : ∀ q ∈ lw_privs, lw_okq q := by
  show ∀ q ∈ lw_privs_1 ++ (lw_privs_2 ++ (lw_privs_3 ++ (lw_privs_4 ++ (lw_privs_5 ++ (lw_privs_6 ++ (lw_privs_7)))))), lw_okq q
  exact List.forall_mem_append.mpr ⟨lw_r1, List.forall_mem_append.mpr ⟨lw_r2, List.forall_mem_append.mpr ⟨lw_r3, List.forall_mem_append.mpr ⟨lw_r4, List.forall_mem_append.mpr ⟨lw_r5, List.forall_mem_append.mpr ⟨lw_r6, lw_r7⟩⟩⟩⟩⟩⟩
/-- the streams that the claim lets the run draw from -/
abbrev lw_cs : List Choice := [Jvm.Choice.named "NaN.bits"]
theorem lw_bits : nanBits ∈ lw_cs := by first | decide | exact List.mem_cons_self | simp [lw_cs, nanBits]
-- ===== end of PART A; then your names; then what follows =====
end
section
/-! ===== BEGIN words of one list among another's, by their places ===== -/
theorem goodIn_r {big : List Cond} (ws : List Cond) (ps : List Nat) (hp : ws = ps.filterMap (fun i => big[i]?)) (h : ws.all goodWord = true) : GoodIn big ws := by
  intro w hw
  have h1 := List.all_eq_true.mp h w hw
  rw [hp] at hw
  obtain ⟨i, -, hi⟩ := List.mem_filterMap.mp hw
  have hm : w ∈ big := by first | exact List.mem_of_getElem? hi | exact List.getElem?_mem hi
  exact ⟨hm, good_of_word h1⟩
theorem goodIn_app {big a b : List Cond} (ha : GoodIn big a) (hb : GoodIn big b) : GoodIn big (a ++ b) := fun w h => (List.mem_append.mp h).elim (ha w) (hb w)
theorem goodIn_ca {big a b : List Cond} {c : Cond} (ha : GoodIn big (c :: a)) (hb : GoodIn big b) : GoodIn big (c :: (a ++ b)) := fun w h => (List.mem_cons.mp h).elim (fun e => ha w (List.mem_cons.mpr (Or.inl e))) (fun h => (List.mem_append.mp h).elim (fun h => ha w (List.mem_cons.mpr (Or.inr h))) (hb w))
theorem goodIn_sub {big ws : List Cond} (hm : ∀ w ∈ ws, w ∈ big) (h : ws.all goodWord = true) : GoodIn big ws := fun w hw => ⟨hm w hw, good_of_word (List.all_eq_true.mp h w hw)⟩
/-! ===== END ===== -/
/-! ===== BEGIN exceptions that leave a method, and their catching by the caller (launches without stack traces) ===== -/
section VXA
/-! The laws vx_back, vx_callV, vx_callS, vx_callSW, vx_throw0, vx_throwS follow proofs of the library, with one case more: JvmDerived/Free/Laws.lean (Back.of_free), Shelf42/LK1.lean (callV, callS), Shelf/KitTraced.lean (throwNew0V, throwNewS). -/
/-- where a method has thrown q: the class by its name, the cell, what was written, the world -/
def vx_T (XC : String → State → State → Prop) (st : State) (q : Addr) (t : State) (mc ms : Nat) (free : Addr → Prop) : Prop :=
  ∃ (E : String) (ce : Cell) (L : List Loc), XC E st t ∧ t.heap[q]? = some ce ∧ ce.vm = .none ∧ st.vm.findClass E = some ce.cls ∧ st.WarmedH t.vm ∧ st.sameButNew ({ t with vm := st.vm } : State) L mc ms ∧ ∀ z ∈ L, free z.base
def vx_Q (Qc : Array Value → State → Outcome → State → Prop) (XC : String → State → State → Prop) (mc ms : Nat) (free : Addr → Prop) : Array Value → State → Outcome → State → Prop := fun a st o t =>
  (Qc a st o t ∧ ∃ L, FrameEnd st o t L mc ms ∧ ∀ q ∈ L, free q.base) ∨ ∃ q, o = .threw q ∧ vx_T XC st q t mc ms free
/-- a callee that returns or throws -/
def vx_Met (l : Launch) (y : MethodName) (ws : List Cond) (rm : Room) (Pc : Array Value → State → Prop) (Qc : Array Value → State → Outcome → State → Prop) (XC : String → State → State → Prop) (mc ms : Nat) (free : Addr → Prop) : Prop :=
  MetFree l y (headSpec ws rm) Pc (fun _ _ _ _ _ => True) (vx_Q Qc XC mc ms free)
def vx_Post (XC : String → State → State → Prop) (mc ms : Nat) (free : Addr → Prop) : Pt → Array Value → Addr → Pt → Prop := fun A a q B =>
  ∃ (g : JFrame) (mk : MethodId) (t : State) (L : List Loc) (E : String) (ce : Cell), B.U.heap = t.heap ∧ B.U.vm = t.vm ∧ XC E (A.U.calling g mk a) t ∧ t.heap[q]? = some ce ∧ ce.vm = .none ∧ A.U.vm.findClass E = some ce.cls ∧ B.locs = A.locs ++ L ∧ (∀ z ∈ L, free z.base) ∧ B.cells = A.cells + mc ∧ B.slots = A.slots + ms
def vx_Back (l : Launch) (R : Room) (p : Program) (e : Env) (below : List Frame) (s : State) (sargs : Array Value) (y : MethodName) (len W9 : Nat)
    (Pre : Pt → Array Value → Prop) (Post : Pt → Array Value → Option Value → Pt → Prop) (PostX : Pt → Array Value → Addr → Pt → Prop) : Prop :=
  ∀ (m : MethodId) (meth : Method) (c : Code) (A : Pt) (g : JFrame) (ig : Instr) (mk : MethodId) (a : Array Value),
    Stand p l e R s m sargs below meth c A.U A.locs A.cells A.slots → g.method = m → g.locals.size = c.maxLocals → decode c.code g.pc = .ok (ig, len) →
    2 * g.monitorRoom + (g.stack.map fun v => v.category).sum ≤ W9 → A.U.methodNamed? y = some mk → Pre A a →
    (∃ (v : Option Value) (B : Pt), Stand p l e R s m sargs below meth c B.U B.locs B.cells B.slots ∧ Post A a v B ∧
      Steps p.tables e below (doInvoke e (A.U.setTop g) [] mk a).1 (B.U.setTop { g with pc := g.pc + len, stack := v.toList ++ g.stack })) ∨
    (∃ (q : Addr) (B : Pt), Stand p l e R s m sargs below meth c B.U B.locs B.cells B.slots ∧ PostX A a q B ∧
      Steps p.tables e below (doInvoke e (A.U.setTop g) [] mk a).1 ((B.U.setTop g).pushFrame (.throwing q)))
section Payer
variable {l : Launch} {R : Room} {p : Program} {e : Env} {below : List Frame} {s : State} {sargs : Array Value} {y : MethodName} {len W9 : Nat}
theorem vx_back {ws : List Cond} {rm : Room} {Pc : Array Value → State → Prop} {Qc : Array Value → State → Outcome → State → Prop} {XC : String → State → State → Prop} {mc ms : Nat} {free : Addr → Prop} {bytes : ByteArray} {maxL : Nat} {ret : Option FieldType}
    (hM : vx_Met l y ws rm Pc Qc XC mc ms free) (hblind : FrameBlind Pc) (hrc : rm.cells = mc) (hrs : rm.slots = ms)
    (hframes : rm.frames + 1 ≤ R.frames) (hlocals : W9 + (maxL + 11) + rm.locals ≤ R.locals)
    (hws : ∀ w ∈ ws, ∀ a' U, s.WarmedH U.vm → w.before a' U = true) (hcode : Cond.code y bytes maxL ret ∈ ws) (hinit : ∀ a' U, s.WarmedH U.vm → (Cond.initialized y.cls).before a' U = true) :
    vx_Back l R p e below s sargs y len W9 (PreOf R mc ms Pc) (PostOf Qc mc ms free) (vx_Post XC mc ms free) := by
  intro m meth c A g ig mk a X hg hsize hdg hW hn hp
  have h1 : (headSpec ws rm).pre.before a A.U = true := atoms_intro fun w hw => hws w hw _ _ X.warmed
  have h2 : (Cond.code y bytes maxL ret).before a A.U = true := hws _ hcode _ _ X.warmed
  have h3 : (Cond.initialized y.cls).before a A.U = true := hinit _ _ X.warmed
  have h4 : A.cells + (headSpec ws rm).room.cells ≤ R.cells := by rw [show (headSpec ws rm).room.cells = mc from hrc]; exact hp.1
  have h5 : A.slots + (headSpec ws rm).room.slots ≤ R.slots := by rw [show (headSpec ws rm).room.slots = ms from hrs]; exact hp.2.1
  have hPc : Pc a (A.U.calling g mk a) := hblind _ _ _ _ hp.2.2
  obtain ⟨U, Ls, c0, s0⟩ := A
  dsimp only [Pt.U, Pt.locs, Pt.cells, Pt.slots] at h1 h2 h3 h4 h5 X hn hPc ⊢
  obtain ⟨methY, cY, hmY, hcY, -, hlY, -, -, -, -⟩ := Cond.code_spec hn h2
  obtain ⟨kY, hkY, -⟩ := className_of_methodNamed hn
  have hinitY : kY.init = .initialized := Cond.initialized_spec (findClass_of_methodNamed hn) hkY h3
  have h : At U g.method c below := by rw [hg]; exact X.here
  have hlocals9 : W9 + (maxL + 11) + (headSpec ws rm).room.locals ≤ R.locals := hlocals
  have happ : (headSpec ws rm).appliesLoose y e.platform (U.calling g mk a) = true :=
    Spec.appliesLoose_calling (g := g) h hdg hn hkY hinitY
      (X.room_calling (g := g) (R' := (headSpec ws rm).room) hsize hmY hcY hframes (by rw [hlY]; omega) h4 h5) h1
  obtain ⟨mid, hmid⟩ := h.above
  have hfr : (U.setTop g).frames = (.java g :: mid) ++ below := by rw [State.frames_setTop' g h.top, hmid]; rfl
  obtain ⟨o, s₂, hsteps, -, hend, hq⟩ := Steps.callFree hM p X.admits X.cas X.clock (acts := []) hfr happ hPc trivial
  have hq' : vx_Q Qc XC mc ms free a (U.calling g mk a) o s₂ := hq
  rw [State.frames_setTop' g h.top] at hend
  obtain ⟨g₀, hg0⟩ := Option.isSome_iff_exists.mp h.top
  obtain ⟨r, hr⟩ := State.topJava?_eq_some.mp hg0
  have hr' : (({ U with heap := s₂.heap, slotsUsed := s₂.slotsUsed } : State).setVm s₂.vm).frames = .java g₀ :: r := hr
  rcases hq' with ⟨hqc, L, hfe, hL⟩ | ⟨q, rfl, E, ce, L, hx, hce, hcv, hcl, hW₂, hsm, hL⟩
  · obtain ⟨⟨v, rfl⟩, hW₂, e2, q2, q3, q4, q5, q6⟩ := id hfe
    have e3 : s₂ = ({ (U.calling g mk a).setFrames s₂.frames with heap := s₂.heap, slotsUsed := s₂.slotsUsed } : State).setVm s₂.vm := by
      have : s₂ = ({ s₂ with vm := (U.calling g mk a).vm } : State).setVm s₂.vm := rfl
      rw [e2] at this
      exact this
    obtain ⟨c₂, i₂, len₂, hc₂, hd₂, hf₂⟩ := hend
    have hW' : U.WarmedH s₂.vm := hW₂
    have hcc : c₂ = c := by
      have h1 : s₂.code? g.method = U.code? g.method := by
        rw [State.code?_eq, State.code?_eq, hW'.alike.method?]
      exact Option.some.inj (hc₂.symm.trans (h1.trans h.code))
    subst hcc
    have hlen : len₂ = len := by rw [hdg] at hd₂; cases hd₂; rfl
    subst hlen
    have hs₂ : s₂ = (({ U with heap := s₂.heap, slotsUsed := s₂.slotsUsed } : State).setVm s₂.vm).setTop { g with pc := g.pc + len₂, stack := v.toList ++ g.stack } := by
      refine e3.trans ?_
      rw [hf₂, State.calling_eq h.top, State.setFrames_setFrames, State.setTop_of_frames _ hr', hr]
      rfl
    have hsame : U.sameButNew ({ U with heap := s₂.heap, slotsUsed := s₂.slotsUsed } : State) L mc ms := by
      refine ⟨?_, q2, q3, q4, q5, q6⟩
      obtain ⟨t, ht, -⟩ := State.frames_cons hr
      show ({ U with heap := s₂.heap, slotsUsed := s₂.slotsUsed } : State) = { U.setFrames U.frames with heap := s₂.heap, slotsUsed := s₂.slotsUsed }
      rw [State.setFrames_self ht]
    subst hg
    refine Or.inl ⟨v, ⟨(({ U with heap := s₂.heap, slotsUsed := s₂.slotsUsed } : State).setVm s₂.vm), Ls ++ L, c0 + mc, s0 + ms⟩,
      ⟨X.admits, X.cas, X.clock, X.frames, X.room, X.hears, X.method, X.code, (X.here.setHeapUsed s₂.heap s₂.slotsUsed).setVm hW'.alike, X.tail, State.WarmedH.trans X.warmed hW', X.limits, X.bytes, X.same.trans (hsame.setVm s.vm)⟩,
      ⟨g, mk, s₂, L, rfl, rfl, hqc, rfl, hL, rfl, rfl⟩, ?_⟩
    show Steps p.tables e below _ ((({ U with heap := s₂.heap, slotsUsed := s₂.slotsUsed } : State).setVm s₂.vm).setTop { g with pc := g.pc + len₂, stack := v.toList ++ g.stack })
    rw [← hs₂]
    exact hsteps
  · obtain ⟨e2, q2, q3, q4, q5, q6⟩ := id hsm
    have e3 : s₂ = ({ (U.calling g mk a).setFrames s₂.frames with heap := s₂.heap, slotsUsed := s₂.slotsUsed } : State).setVm s₂.vm := by
      have : s₂ = ({ s₂ with vm := (U.calling g mk a).vm } : State).setVm s₂.vm := rfl
      rw [e2] at this
      exact this
    have hf₂ : s₂.frames = .throwing q :: .java g :: U.frames.tail := hend
    have hW' : U.WarmedH s₂.vm := hW₂
    have hs₂ : s₂ = ((({ U with heap := s₂.heap, slotsUsed := s₂.slotsUsed } : State).setVm s₂.vm).setTop g).pushFrame (.throwing q) := by
      refine e3.trans ?_
      rw [hf₂, State.calling_eq h.top, State.setFrames_setFrames, State.pushFrame, State.frames_setTop _ hr', State.setTop_of_frames _ hr', State.setFrames_setFrames, hr]
      rfl
    have hsame : U.sameButNew ({ U with heap := s₂.heap, slotsUsed := s₂.slotsUsed } : State) L mc ms := by
      refine ⟨?_, q2, q3, q4, q5, q6⟩
      obtain ⟨t, ht, -⟩ := State.frames_cons hr
      show ({ U with heap := s₂.heap, slotsUsed := s₂.slotsUsed } : State) = { U.setFrames U.frames with heap := s₂.heap, slotsUsed := s₂.slotsUsed }
      rw [State.setFrames_self ht]
    subst hg
    refine Or.inr ⟨q, ⟨(({ U with heap := s₂.heap, slotsUsed := s₂.slotsUsed } : State).setVm s₂.vm), Ls ++ L, c0 + mc, s0 + ms⟩,
      ⟨X.admits, X.cas, X.clock, X.frames, X.room, X.hears, X.method, X.code, (X.here.setHeapUsed s₂.heap s₂.slotsUsed).setVm hW'.alike, X.tail, State.WarmedH.trans X.warmed hW', X.limits, X.bytes, X.same.trans (hsame.setVm s.vm)⟩,
      ⟨g, mk, s₂, L, E, ce, rfl, rfl, hx, hce, hcv, hcl, rfl, hL, rfl, rfl⟩, ?_⟩
    show Steps p.tables e below _ (((({ U with heap := s₂.heap, slotsUsed := s₂.slotsUsed } : State).setVm s₂.vm).setTop g).pushFrame (.throwing q))
    rw [← hs₂]
    exact hsteps
end Payer
section Calls
variable {p : Program} {l : Launch} {e : Env} {R : Room} {s : State} {m : MethodId} {args : Array Value} {below : List Frame} {meth : Method} {c : Code} {T : State} {locs : List Loc} {cells slots : Nat}
theorem vx_callV (X : Stand p l e R s m args below meth c T locs cells slots) (hexec : p.tables.exec = Jvm.exec) {own C : String} {index : Nat} {y : MethodName} {bytes : ByteArray} {maxL : Nat} {ret : Option FieldType}
    (hown : s.vm.findClass own = some m.cls) (hlink : (Cond.methodLink own index y).before args s = true) (hinst : (Cond.instanceMethod y).before args s = true) (hsel : (Cond.selects C y y).before args s = true)
    (hcode : (Cond.code y bytes maxL ret).before args s = true) (hy : y.cls ≠ "java/lang/invoke/MethodHandle" ∧ y.cls ≠ "java/lang/invoke/VarHandle")
    {W9 : Nat} {Pre : Pt → Array Value → Prop} {Post : Pt → Array Value → Option Value → Pt → Prop} {PostX : Pt → Array Value → Addr → Pt → Prop} (hK : vx_Back l R p e below s args y 3 W9 Pre Post PostX)
    {b : Addr} {cellB : Cell} (hcell : T.heap[b]? = some cellB) (hobj : cellB.vm.isStatics = false) (hcls : s.vm.findClass C = some cellB.cls)
    {g : JFrame} (hg : g.method = m) (hsize : g.locals.size = c.maxLocals) {argsL rest : List Value} (hlen : ∀ sig, parseMethodDescriptor y.desc = some sig → argsL.length = sig.parameters.length)
    (hstack : g.stack = argsL.reverse ++ .ref b :: rest) (hW : 2 * g.monitorRoom + (rest.map fun v => v.category).sum ≤ W9) (hdg : decode c.code g.pc = .ok (.invokevirtual index, 3))
    (hpre : ∀ vm₁, s.WarmedH vm₁ → Pre ⟨T.setVm vm₁, locs, cells, slots⟩ (Value.ref b :: argsL).toArray) :
    (∃ (v : Option Value) (vm₁ : Vm) (B : Pt), s.WarmedH vm₁ ∧ Stand p l e R s m args below meth c B.U B.locs B.cells B.slots ∧ Post ⟨T.setVm vm₁, locs, cells, slots⟩ (Value.ref b :: argsL).toArray v B ∧
      ∀ target, Steps p.tables e below (B.U.setTop { g with pc := g.pc + 3, stack := v.toList ++ rest }) target → Steps p.tables e below (T.setTop g) target) ∨
    (∃ (q : Addr) (vm₁ : Vm) (B : Pt), s.WarmedH vm₁ ∧ Stand p l e R s m args below meth c B.U B.locs B.cells B.slots ∧ PostX ⟨T.setVm vm₁, locs, cells, slots⟩ (Value.ref b :: argsL).toArray q B ∧
      Steps p.tables e below (T.setTop g) ((B.U.setTop { g with stack := rest }).pushFrame (.throwing q))) := by
  obtain ⟨mk, methM, hnamed, hmethM, hstM, habM⟩ := Cond.instanceMethod_spec hinst
  obtain ⟨methM', cM, hmethM', -, -, -, -, -, -, hsigM⟩ := Cond.code_spec hnamed hcode
  cases hmethM.symm.trans hmethM'
  obtain ⟨c2, r2, m2, q1, q2, q3, q4, kP, hkP, hkPi⟩ := Cond.selects_spec hsel
  cases hcls.symm.trans q1
  cases (State.methodFound?_of_named hnamed hy).symm.trans q2
  cases hnamed.symm.trans q3
  have hselP : selectMethod e.platform s.vm cellB.cls mk = .method mk := by rw [Launch.admits_selectMethod X.admits]; exact q4
  obtain ⟨vm₁, X₁, hstep₁⟩ := X.invokevirtual hexec hown hlink hnamed hmethM hstM hkP hkPi hy (a := b) (cell := cellB) hcell
    (fun z h => by rw [h] at hobj; cases hobj) hselP hmethM habM hkP hkPi (g := g) hg (argsL := argsL) (rest := rest) (hlen _ hsigM) hstack hdg
  rcases hK m meth c ⟨T.setVm vm₁, locs, cells, slots⟩ { g with stack := rest } (.invokevirtual index) mk (Value.ref b :: argsL).toArray X₁ hg hsize hdg hW (X₁.named hnamed) (hpre vm₁ X₁.warmed) with ⟨v, B, X', hpost, hsteps⟩ | ⟨q, B, X', hpost, hsteps⟩
  · exact Or.inl ⟨v, vm₁, B, X₁.warmed, X', hpost, fun target h => hstep₁ _ fun acts => by rw [doInvoke_state]; exact hsteps.trans h⟩
  · exact Or.inr ⟨q, vm₁, B, X₁.warmed, X', hpost, hstep₁ _ fun acts => by rw [doInvoke_state]; exact hsteps⟩
theorem vx_callS (X : Stand p l e R s m args below meth c T locs cells slots) (hexec : p.tables.exec = Jvm.exec) {own : String} {index : Nat} {y : MethodName} {bytes : ByteArray} {maxL : Nat} {ret : Option FieldType}
    (hown : s.vm.findClass own = some m.cls) (hlink : (Cond.methodLink own index y).before args s = true) (hstat : (Cond.static y).before args s = true) (hinit : (Cond.initialized y.cls).before args s = true)
    (hcode : (Cond.code y bytes maxL ret).before args s = true) (hy : y.cls ≠ "java/lang/invoke/MethodHandle" ∧ y.cls ≠ "java/lang/invoke/VarHandle")
    {W9 : Nat} {Pre : Pt → Array Value → Prop} {Post : Pt → Array Value → Option Value → Pt → Prop} {PostX : Pt → Array Value → Addr → Pt → Prop} (hK : vx_Back l R p e below s args y 3 W9 Pre Post PostX)
    {g : JFrame} (hg : g.method = m) (hsize : g.locals.size = c.maxLocals) {argsL rest : List Value} (hlen : ∀ sig, parseMethodDescriptor y.desc = some sig → argsL.length = sig.parameters.length)
    (hstack : g.stack = argsL.reverse ++ rest) (hW : 2 * g.monitorRoom + (rest.map fun v => v.category).sum ≤ W9) (hdg : decode c.code g.pc = .ok (.invokestatic index, 3))
    (hpre : ∀ vm₁, s.WarmedH vm₁ → Pre ⟨T.setVm vm₁, locs, cells, slots⟩ argsL.toArray) :
    (∃ (v : Option Value) (vm₁ : Vm) (B : Pt), s.WarmedH vm₁ ∧ Stand p l e R s m args below meth c B.U B.locs B.cells B.slots ∧ Post ⟨T.setVm vm₁, locs, cells, slots⟩ argsL.toArray v B ∧
      ∀ target, Steps p.tables e below (B.U.setTop { g with pc := g.pc + 3, stack := v.toList ++ rest }) target → Steps p.tables e below (T.setTop g) target) ∨
    (∃ (q : Addr) (vm₁ : Vm) (B : Pt), s.WarmedH vm₁ ∧ Stand p l e R s m args below meth c B.U B.locs B.cells B.slots ∧ PostX ⟨T.setVm vm₁, locs, cells, slots⟩ argsL.toArray q B ∧
      Steps p.tables e below (T.setTop g) ((B.U.setTop { g with stack := rest }).pushFrame (.throwing q))) := by
  obtain ⟨mk, hnamed⟩ := Cond.code_named hcode
  obtain ⟨methM, cM, hmethM, -, -, -, -, -, -, hsigM⟩ := Cond.code_spec hnamed hcode
  have hstatic : methM.isStatic = true := Cond.static_spec hnamed hmethM hstat
  obtain ⟨kP, hkP, -⟩ := className_of_methodNamed hnamed
  have hinitP : kP.init = .initialized := Cond.initialized_spec (findClass_of_methodNamed hnamed) hkP hinit
  obtain ⟨vm₁, X₁, hstep₁⟩ := X.invokestatic hexec hown hlink hnamed hmethM hstatic hkP hinitP hy (g := g) hg (argsL := argsL) (rest := rest) (hlen _ hsigM) hstack hdg
  rcases hK m meth c ⟨T.setVm vm₁, locs, cells, slots⟩ { g with stack := rest } (.invokestatic index) mk argsL.toArray X₁ hg hsize hdg hW (X₁.named hnamed) (hpre vm₁ X₁.warmed) with ⟨v, B, X', hpost, hsteps⟩ | ⟨q, B, X', hpost, hsteps⟩
  · exact Or.inl ⟨v, vm₁, B, X₁.warmed, X', hpost, fun target h => hstep₁ _ fun acts => by rw [doInvoke_state]; exact hsteps.trans h⟩
  · exact Or.inr ⟨q, vm₁, B, X₁.warmed, X', hpost, hstep₁ _ fun acts => by rw [doInvoke_state]; exact hsteps⟩
end Calls
theorem vx_cls {s : State} {T : State} {vm₁ : Vm} {E : String} {k : ClassId} (hW : s.WarmedH vm₁) (h : (T.setVm vm₁).vm.findClass E = some k) : s.vm.findClass E = some k := by
  have h1 : vm₁.findClass E = some k := h
  rw [hW.alike.findClass] at h1
  exact h1
/-- the method's frame g, with q thrown over it -/
def vx_W (p : Program) (l : Launch) (e : Env) (R : Room) (s : State) (m : MethodId) (args : Array Value) (below : List Frame) (meth : Method) (c : Code) (H : Heap) (locs : List Loc) (cells slots : Nat) (Q : State → Prop) (g : JFrame) (q : Addr) : Prop :=
  ∀ T : State, T.heap = H → Stand p l e R s m args below meth c T locs cells slots → ∃ t, Steps p.tables e below ((T.setTop g).pushFrame (.throwing q)) t ∧ Q t
def vx_Run (p : Program) (l : Launch) (e : Env) (R : Room) (s : State) (m : MethodId) (args : Array Value) (below : List Frame) (meth : Method) (c : Code) (H : Heap) (locs : List Loc) (cells slots mc ms : Nat) (g : JFrame) (rest : List Value) (Qa : State → Outcome → State → Prop) (XC : String → State → State → Prop) (free : Addr → Prop) : Prop :=
  ∀ T : State, T.heap = H → Stand p l e R s m args below meth c T locs cells slots →
    (∃ (v : Option Value) (st₀ t T' : State) (L : List Loc), st₀.heap = H ∧ Stand p l e R s m args below meth c T' (locs ++ L) (cells + mc) (slots + ms) ∧ (∀ q ∈ L, free q.base) ∧ T'.heap = t.heap ∧ T'.vm = t.vm ∧ Qa st₀ (.returned v) t ∧
      Goes p e below T g T' { g with pc := g.pc + 3, stack := v.toList ++ rest }) ∨
    (∃ (q : Addr) (st₀ t T' : State) (L : List Loc) (E : String) (ce : Cell), st₀.heap = H ∧ Stand p l e R s m args below meth c T' (locs ++ L) (cells + mc) (slots + ms) ∧ (∀ z ∈ L, free z.base) ∧ T'.heap = t.heap ∧ T'.vm = t.vm ∧ XC E st₀ t ∧ t.heap[q]? = some ce ∧ ce.vm = .none ∧ s.vm.findClass E = some ce.cls ∧
      Steps p.tables e below (T.setTop g) ((T'.setTop { g with stack := rest }).pushFrame (.throwing q)))
def vx_X {S : Type} (px : S → Prop) (B : String → S → State → Prop) (A : Nat → Prop) : String → State → State → Prop := fun E st t => ∃ u : S, px u ∧ B E u t ∧ va_F A st t
section Runs
variable {p : Program} {l : Launch} {e : Env} {R : Room} {s : State} {m : MethodId} {args : Array Value} {below : List Frame} {meth : Method} {c : Code} {H : Heap} {locs : List Loc} {cells slots : Nat}
variable {y : MethodName} {bytes cc : ByteArray} {maxL nL mc ms n index : Nat} {ret : Option FieldType} {ws : List Cond} {rm : Room} {Pc : Array Value → State → Prop} {Qc : Array Value → State → Outcome → State → Prop} {XC : String → State → State → Prop} {free : Addr → Prop} {Ts : List Cond} {own C : String} {b : Addr} {As rest : List Value} {g : JFrame}
theorem vx_callBack (cb : CallB R s args own index y bytes maxL ret ws rm mc ms n) (hM : vx_Met l y ws rm Pc Qc XC mc ms free) (hbl : FrameBlind Pc) : vx_Back l R p e below s args y 3 8 (PreOf R mc ms Pc) (PostOf Qc mc ms free) (vx_Post XC mc ms free) := by
  obtain ⟨hrc, hrs, hfr, hlo, hws, hcw, -, hini, -⟩ := cb
  exact vx_back (bytes := bytes) (maxL := maxL) (ret := ret) hM hbl hrc hrs hfr hlo hws hcw (fun a' U hW => word_at hW (Or.inl (by first | rfl | simp [Cond.onTables, Cond.keeps, Cond.steady])) hini)
theorem vx_runV (S : CallFix p m c cc nL s args Ts own) (hM : vx_Met l y ws rm Pc Qc XC mc ms free) (cw : CallW R s args own C index y bytes maxL ret ws rm mc ms n) (hp : PreV s H C b Pc As)
    (hg : g.method = m) (hn : As.length = n) (hsize : g.locals.size = nL) (hstack : g.stack = As.reverse ++ .ref b :: rest) (hW : 2 * g.monitorRoom + (rest.map fun v => v.category).sum ≤ 8) (hdg : decode cc g.pc = .ok (.invokevirtual index, 3)) (hf : cells + mc ≤ R.cells ∧ slots + ms ≤ R.slots) :
    vx_Run p l e R s m args below meth c H locs cells slots mc ms g rest (Qc (Value.ref b :: As).toArray) XC free := by
  have hK : vx_Back l R p e below s args y 3 8 (PreOf R mc ms Pc) (PostOf Qc mc ms free) (vx_Post XC mc ms free) := vx_callBack cw.1 hM hp.1
  obtain ⟨⟨-, -, -, -, -, -, hcode, -, hy, hlen, hl⟩, hin, hse⟩ := cw
  obtain ⟨hx, hb, hml, ho, -⟩ := S
  obtain ⟨-, ⟨cellB, hcB, hoB, hclB⟩, hPc⟩ := hp
  intro T hT X
  rcases vx_callV X hx (C := C) (bytes := bytes) (maxL := maxL) (ret := ret) ho hl hin hse hcode hy hK (by rw [hT]; exact hcB) hoB hclB hg (hsize.trans hml.symm) (argsL := As) (rest := rest) (fun sig h => hn.trans (hlen sig h)) hstack hW (by rw [hb]; exact hdg)
    (fun vm₁ hW₁ => ⟨hf.1, hf.2, hPc (T.setVm vm₁) hT hW₁⟩) with ⟨v, vm₁, ⟨U', l2, c2, s2⟩, hW₁, X', ⟨g', mk, t, L, e1, e2, hq, h1, hL, h2, h3⟩, st⟩ | ⟨q, vm₁, ⟨U', l2, c2, s2⟩, hW₁, X', ⟨g', mk, t, L, E, ce, e1, e2, hq, hce, hcv, hcl, h1, hL, h2, h3⟩, st⟩
  · dsimp only [Pt.U, Pt.locs, Pt.cells, Pt.slots] at X' e1 e2 h1 h2 h3 st
    subst h1; subst h2; subst h3
    exact Or.inl ⟨v, (T.setVm vm₁).calling g' mk (Value.ref b :: As).toArray, t, U', L, hT, X', hL, e1, e2, hq, st⟩
  · dsimp only [Pt.U, Pt.locs, Pt.cells, Pt.slots] at X' e1 e2 h1 h2 h3 st hcl
    subst h1; subst h2; subst h3
    exact Or.inr ⟨q, (T.setVm vm₁).calling g' mk (Value.ref b :: As).toArray, t, U', L, E, ce, hT, X', hL, e1, e2, hq, hce, hcv, vx_cls hW₁ hcl, st⟩
theorem vx_runS (S : CallFix p m c cc nL s args Ts own) (hM : vx_Met l y ws rm Pc Qc XC mc ms free) (cw : CallB R s args own index y bytes maxL ret ws rm mc ms n ∧ (Cond.static y).before args s = true) (hp : PreS s H Pc As)
    (hg : g.method = m) (hn : As.length = n) (hsize : g.locals.size = nL) (hstack : g.stack = As.reverse ++ rest) (hW : 2 * g.monitorRoom + (rest.map fun v => v.category).sum ≤ 8) (hdg : decode cc g.pc = .ok (.invokestatic index, 3)) (hf : cells + mc ≤ R.cells ∧ slots + ms ≤ R.slots) :
    vx_Run p l e R s m args below meth c H locs cells slots mc ms g rest (Qc As.toArray) XC free := by
  have hK : vx_Back l R p e below s args y 3 8 (PreOf R mc ms Pc) (PostOf Qc mc ms free) (vx_Post XC mc ms free) := vx_callBack cw.1 hM hp.1
  obtain ⟨⟨-, -, -, -, -, -, hcode, hini, hy, hlen, hl⟩, hstt⟩ := cw
  obtain ⟨hx, hb, hml, ho, -⟩ := S
  intro T hT X
  rcases vx_callS X hx (bytes := bytes) (maxL := maxL) (ret := ret) ho hl hstt hini hcode hy hK hg (hsize.trans hml.symm) (argsL := As) (rest := rest) (fun sig h => hn.trans (hlen sig h)) hstack hW (by rw [hb]; exact hdg)
    (fun vm₁ hW₁ => ⟨hf.1, hf.2, hp.2 (T.setVm vm₁) hT hW₁⟩) with ⟨v, vm₁, ⟨U', l2, c2, s2⟩, hW₁, X', ⟨g', mk, t, L, e1, e2, hq, h1, hL, h2, h3⟩, st⟩ | ⟨q, vm₁, ⟨U', l2, c2, s2⟩, hW₁, X', ⟨g', mk, t, L, E, ce, e1, e2, hq, hce, hcv, hcl, h1, hL, h2, h3⟩, st⟩
  · dsimp only [Pt.U, Pt.locs, Pt.cells, Pt.slots] at X' e1 e2 h1 h2 h3 st
    subst h1; subst h2; subst h3
    exact Or.inl ⟨v, (T.setVm vm₁).calling g' mk As.toArray, t, U', L, hT, X', hL, e1, e2, hq, st⟩
  · dsimp only [Pt.U, Pt.locs, Pt.cells, Pt.slots] at X' e1 e2 h1 h2 h3 st hcl
    subst h1; subst h2; subst h3
    exact Or.inr ⟨q, (T.setVm vm₁).calling g' mk As.toArray, t, U', L, E, ce, hT, X', hL, e1, e2, hq, hce, hcv, vx_cls hW₁ hcl, st⟩
end Runs
section Rows
variable {p : Program} {l : Launch} {e : Env} {R : Room} {s : State} {m : MethodId} {args : Array Value} {below : List Frame} {meth : Method} {c : Code} {H : Heap} {locs : List Loc} {cells slots : Nat} {Q : State → Prop}
variable {mc ms : Nat} {free : Addr → Prop} {A0 A1 : Nat → Prop} {H0 : Heap} {a : Array Value} {pc : Nat} {ls : Array Slot} {st0 rest : List Value}
theorem vx_keep {st₀ t T' : State} {L : List Loc} (h0 : st₀.heap = H) (e1 : T'.heap = t.heap) (hS : va_S A0 H0 H locs) (hA : ∀ q, q < H.size → A1 q → A0 q) (hf : ∀ q, free q → A0 q) (hL : ∀ q ∈ L, free q.base) (hF : va_F A1 st₀ t) :
    H.size ≤ T'.heap.size ∧ (∀ q : Nat, q < H.size → ¬ A1 q → T'.heap[q]? = H[q]?) ∧ va_S A0 H0 T'.heap (locs ++ L) := by
  obtain ⟨hz, hk⟩ := hF
  rw [h0] at hz hk
  exact ⟨by rw [e1]; exact hz, fun q h1 h2 => by rw [e1]; exact hk q h1 h2,
    ⟨Nat.le_trans hS.1 (by rw [e1]; exact hz), fun q h1 h2 => by rw [e1, hk q (Nat.lt_of_lt_of_le h1 hS.1) (fun z => h2 (hA q (Nat.lt_of_lt_of_le h1 hS.1) z))]; exact hS.2.1 q h1 h2, fun q hq => by
      rcases List.mem_append.mp hq with h | h
      · exact hS.2.2 q h
      · exact hf _ (hL q h)⟩⟩
theorem vx_calli {S SX : Type} {post : Int32 → S → Prop} {px : SX → Prop} {B : S → State → Prop} {BX : String → SX → State → Prop} {AX : Nat → Prop} (hr : vx_Run p l e R s m args below meth c H locs cells slots mc ms (F0 m pc ls st0) rest (va_Qi post B A1 a) (vx_X px BX AX) free) (hS : va_S A0 H0 H locs) (hA : ∀ q, q < H.size → A1 q → A0 q) (hf : ∀ q, free q → A0 q) (hAX : ∀ q, q < H.size → AX q → A0 q)
    (kx : ∀ (E : String) (ce : Cell) (q9 : Addr) (u : SX) (t : State) (H1 : Heap) (locs1 : List Loc), t.heap = H1 → s.vm.Alike t.vm → px u → BX E u t → H.size ≤ H1.size → (∀ q : Nat, q < H.size → ¬ AX q → H1[q]? = H[q]?) → va_S A0 H0 H1 locs1 → H1[q9]? = some ce → ce.vm = .none → s.vm.findClass E = some ce.cls → vx_W p l e R s m args below meth c H1 locs1 (cells + mc) (slots + ms) Q (F0 m pc ls rest) q9)
    (kk : ∀ (r : Int32) (u : S) (t : State) (H1 : Heap) (locs1 : List Loc), t.heap = H1 → s.vm.Alike t.vm → post r u → B u t → H.size ≤ H1.size → (∀ q : Nat, q < H.size → ¬ A1 q → H1[q]? = H[q]?) → va_S A0 H0 H1 locs1 → W p l e R s m args below meth c H1 locs1 (cells + mc) (slots + ms) Q (F0 m (pc + 3) ls (.int r :: rest))) : W p l e R s m args below meth c H locs cells slots Q (F0 m pc ls st0) := by
  intro T hT X
  rcases hr T hT X with ⟨v, st₀, t, T', L, h0, X', hL, e1, e2, ⟨⟨r, u, hv, hp, hb⟩, hF⟩, st⟩ | ⟨q, st₀, t, T', L, E, ce, h0, X', hL, e1, e2, ⟨u, hp, hb, hF⟩, hce, hcv, hcl, st⟩
  · cases hv
    obtain ⟨k1, k2, k3⟩ := vx_keep h0 e1 hS hA hf hL hF
    obtain ⟨t2, a1, b1⟩ := kk r u t T'.heap (locs ++ L) e1.symm (by rw [← e2]; exact X'.warmed.alike) hp hb k1 k2 k3 T' rfl X'
    exact ⟨t2, st t2 a1, b1⟩
  · obtain ⟨k1, k2, k3⟩ := vx_keep h0 e1 hS hAX hf hL hF
    obtain ⟨t2, a1, b1⟩ := kx E ce q u t T'.heap (locs ++ L) e1.symm (by rw [← e2]; exact X'.warmed.alike) hp hb k1 k2 k3 (by rw [e1]; exact hce) hcv hcl T' rfl X'
    exact ⟨t2, st.trans a1, b1⟩
theorem vx_calll {S SX : Type} {post : Int64 → S → Prop} {px : SX → Prop} {B : S → State → Prop} {BX : String → SX → State → Prop} {AX : Nat → Prop} (hr : vx_Run p l e R s m args below meth c H locs cells slots mc ms (F0 m pc ls st0) rest (va_Ql post B A1 a) (vx_X px BX AX) free) (hS : va_S A0 H0 H locs) (hA : ∀ q, q < H.size → A1 q → A0 q) (hf : ∀ q, free q → A0 q) (hAX : ∀ q, q < H.size → AX q → A0 q)
    (kx : ∀ (E : String) (ce : Cell) (q9 : Addr) (u : SX) (t : State) (H1 : Heap) (locs1 : List Loc), t.heap = H1 → s.vm.Alike t.vm → px u → BX E u t → H.size ≤ H1.size → (∀ q : Nat, q < H.size → ¬ AX q → H1[q]? = H[q]?) → va_S A0 H0 H1 locs1 → H1[q9]? = some ce → ce.vm = .none → s.vm.findClass E = some ce.cls → vx_W p l e R s m args below meth c H1 locs1 (cells + mc) (slots + ms) Q (F0 m pc ls rest) q9)
    (kk : ∀ (r : Int64) (u : S) (t : State) (H1 : Heap) (locs1 : List Loc), t.heap = H1 → s.vm.Alike t.vm → post r u → B u t → H.size ≤ H1.size → (∀ q : Nat, q < H.size → ¬ A1 q → H1[q]? = H[q]?) → va_S A0 H0 H1 locs1 → W p l e R s m args below meth c H1 locs1 (cells + mc) (slots + ms) Q (F0 m (pc + 3) ls (.long r :: rest))) : W p l e R s m args below meth c H locs cells slots Q (F0 m pc ls st0) := by
  intro T hT X
  rcases hr T hT X with ⟨v, st₀, t, T', L, h0, X', hL, e1, e2, ⟨⟨r, u, hv, hp, hb⟩, hF⟩, st⟩ | ⟨q, st₀, t, T', L, E, ce, h0, X', hL, e1, e2, ⟨u, hp, hb, hF⟩, hce, hcv, hcl, st⟩
  · cases hv
    obtain ⟨k1, k2, k3⟩ := vx_keep h0 e1 hS hA hf hL hF
    obtain ⟨t2, a1, b1⟩ := kk r u t T'.heap (locs ++ L) e1.symm (by rw [← e2]; exact X'.warmed.alike) hp hb k1 k2 k3 T' rfl X'
    exact ⟨t2, st t2 a1, b1⟩
  · obtain ⟨k1, k2, k3⟩ := vx_keep h0 e1 hS hAX hf hL hF
    obtain ⟨t2, a1, b1⟩ := kx E ce q u t T'.heap (locs ++ L) e1.symm (by rw [← e2]; exact X'.warmed.alike) hp hb k1 k2 k3 (by rw [e1]; exact hce) hcv hcl T' rfl X'
    exact ⟨t2, st.trans a1, b1⟩
theorem vx_callf {S SX : Type} {post : UInt32 → S → Prop} {px : SX → Prop} {B : S → State → Prop} {BX : String → SX → State → Prop} {AX : Nat → Prop} (hr : vx_Run p l e R s m args below meth c H locs cells slots mc ms (F0 m pc ls st0) rest (va_Qf post B A1 a) (vx_X px BX AX) free) (hS : va_S A0 H0 H locs) (hA : ∀ q, q < H.size → A1 q → A0 q) (hf : ∀ q, free q → A0 q) (hAX : ∀ q, q < H.size → AX q → A0 q)
    (kx : ∀ (E : String) (ce : Cell) (q9 : Addr) (u : SX) (t : State) (H1 : Heap) (locs1 : List Loc), t.heap = H1 → s.vm.Alike t.vm → px u → BX E u t → H.size ≤ H1.size → (∀ q : Nat, q < H.size → ¬ AX q → H1[q]? = H[q]?) → va_S A0 H0 H1 locs1 → H1[q9]? = some ce → ce.vm = .none → s.vm.findClass E = some ce.cls → vx_W p l e R s m args below meth c H1 locs1 (cells + mc) (slots + ms) Q (F0 m pc ls rest) q9)
    (kk : ∀ (r : UInt32) (u : S) (t : State) (H1 : Heap) (locs1 : List Loc), t.heap = H1 → s.vm.Alike t.vm → post r u → B u t → H.size ≤ H1.size → (∀ q : Nat, q < H.size → ¬ A1 q → H1[q]? = H[q]?) → va_S A0 H0 H1 locs1 → W p l e R s m args below meth c H1 locs1 (cells + mc) (slots + ms) Q (F0 m (pc + 3) ls (.float r :: rest))) : W p l e R s m args below meth c H locs cells slots Q (F0 m pc ls st0) := by
  intro T hT X
  rcases hr T hT X with ⟨v, st₀, t, T', L, h0, X', hL, e1, e2, ⟨⟨r, u, hv, hp, hb⟩, hF⟩, st⟩ | ⟨q, st₀, t, T', L, E, ce, h0, X', hL, e1, e2, ⟨u, hp, hb, hF⟩, hce, hcv, hcl, st⟩
  · cases hv
    obtain ⟨k1, k2, k3⟩ := vx_keep h0 e1 hS hA hf hL hF
    obtain ⟨t2, a1, b1⟩ := kk r u t T'.heap (locs ++ L) e1.symm (by rw [← e2]; exact X'.warmed.alike) hp hb k1 k2 k3 T' rfl X'
    exact ⟨t2, st t2 a1, b1⟩
  · obtain ⟨k1, k2, k3⟩ := vx_keep h0 e1 hS hAX hf hL hF
    obtain ⟨t2, a1, b1⟩ := kx E ce q u t T'.heap (locs ++ L) e1.symm (by rw [← e2]; exact X'.warmed.alike) hp hb k1 k2 k3 (by rw [e1]; exact hce) hcv hcl T' rfl X'
    exact ⟨t2, st.trans a1, b1⟩
theorem vx_calld {S SX : Type} {post : UInt64 → S → Prop} {px : SX → Prop} {B : S → State → Prop} {BX : String → SX → State → Prop} {AX : Nat → Prop} (hr : vx_Run p l e R s m args below meth c H locs cells slots mc ms (F0 m pc ls st0) rest (va_Qd post B A1 a) (vx_X px BX AX) free) (hS : va_S A0 H0 H locs) (hA : ∀ q, q < H.size → A1 q → A0 q) (hf : ∀ q, free q → A0 q) (hAX : ∀ q, q < H.size → AX q → A0 q)
    (kx : ∀ (E : String) (ce : Cell) (q9 : Addr) (u : SX) (t : State) (H1 : Heap) (locs1 : List Loc), t.heap = H1 → s.vm.Alike t.vm → px u → BX E u t → H.size ≤ H1.size → (∀ q : Nat, q < H.size → ¬ AX q → H1[q]? = H[q]?) → va_S A0 H0 H1 locs1 → H1[q9]? = some ce → ce.vm = .none → s.vm.findClass E = some ce.cls → vx_W p l e R s m args below meth c H1 locs1 (cells + mc) (slots + ms) Q (F0 m pc ls rest) q9)
    (kk : ∀ (r : UInt64) (u : S) (t : State) (H1 : Heap) (locs1 : List Loc), t.heap = H1 → s.vm.Alike t.vm → post r u → B u t → H.size ≤ H1.size → (∀ q : Nat, q < H.size → ¬ A1 q → H1[q]? = H[q]?) → va_S A0 H0 H1 locs1 → W p l e R s m args below meth c H1 locs1 (cells + mc) (slots + ms) Q (F0 m (pc + 3) ls (.double r :: rest))) : W p l e R s m args below meth c H locs cells slots Q (F0 m pc ls st0) := by
  intro T hT X
  rcases hr T hT X with ⟨v, st₀, t, T', L, h0, X', hL, e1, e2, ⟨⟨r, u, hv, hp, hb⟩, hF⟩, st⟩ | ⟨q, st₀, t, T', L, E, ce, h0, X', hL, e1, e2, ⟨u, hp, hb, hF⟩, hce, hcv, hcl, st⟩
  · cases hv
    obtain ⟨k1, k2, k3⟩ := vx_keep h0 e1 hS hA hf hL hF
    obtain ⟨t2, a1, b1⟩ := kk r u t T'.heap (locs ++ L) e1.symm (by rw [← e2]; exact X'.warmed.alike) hp hb k1 k2 k3 T' rfl X'
    exact ⟨t2, st t2 a1, b1⟩
  · obtain ⟨k1, k2, k3⟩ := vx_keep h0 e1 hS hAX hf hL hF
    obtain ⟨t2, a1, b1⟩ := kx E ce q u t T'.heap (locs ++ L) e1.symm (by rw [← e2]; exact X'.warmed.alike) hp hb k1 k2 k3 (by rw [e1]; exact hce) hcv hcl T' rfl X'
    exact ⟨t2, st.trans a1, b1⟩
theorem vx_callv {S SX : Type} {post : S → Prop} {px : SX → Prop} {B : S → State → Prop} {BX : String → SX → State → Prop} {AX : Nat → Prop} (hr : vx_Run p l e R s m args below meth c H locs cells slots mc ms (F0 m pc ls st0) rest (va_Qv post B A1 a) (vx_X px BX AX) free) (hS : va_S A0 H0 H locs) (hA : ∀ q, q < H.size → A1 q → A0 q) (hf : ∀ q, free q → A0 q) (hAX : ∀ q, q < H.size → AX q → A0 q)
    (kx : ∀ (E : String) (ce : Cell) (q9 : Addr) (u : SX) (t : State) (H1 : Heap) (locs1 : List Loc), t.heap = H1 → s.vm.Alike t.vm → px u → BX E u t → H.size ≤ H1.size → (∀ q : Nat, q < H.size → ¬ AX q → H1[q]? = H[q]?) → va_S A0 H0 H1 locs1 → H1[q9]? = some ce → ce.vm = .none → s.vm.findClass E = some ce.cls → vx_W p l e R s m args below meth c H1 locs1 (cells + mc) (slots + ms) Q (F0 m pc ls rest) q9)
    (kk : ∀ (u : S) (t : State) (H1 : Heap) (locs1 : List Loc), t.heap = H1 → s.vm.Alike t.vm → post u → B u t → H.size ≤ H1.size → (∀ q : Nat, q < H.size → ¬ A1 q → H1[q]? = H[q]?) → va_S A0 H0 H1 locs1 → W p l e R s m args below meth c H1 locs1 (cells + mc) (slots + ms) Q (F0 m (pc + 3) ls (rest))) : W p l e R s m args below meth c H locs cells slots Q (F0 m pc ls st0) := by
  intro T hT X
  rcases hr T hT X with ⟨v, st₀, t, T', L, h0, X', hL, e1, e2, ⟨⟨u, hv, hp, hb⟩, hF⟩, st⟩ | ⟨q, st₀, t, T', L, E, ce, h0, X', hL, e1, e2, ⟨u, hp, hb, hF⟩, hce, hcv, hcl, st⟩
  · cases hv
    obtain ⟨k1, k2, k3⟩ := vx_keep h0 e1 hS hA hf hL hF
    obtain ⟨t2, a1, b1⟩ := kk u t T'.heap (locs ++ L) e1.symm (by rw [← e2]; exact X'.warmed.alike) hp hb k1 k2 k3 T' rfl X'
    exact ⟨t2, st t2 a1, b1⟩
  · obtain ⟨k1, k2, k3⟩ := vx_keep h0 e1 hS hAX hf hL hF
    obtain ⟨t2, a1, b1⟩ := kx E ce q u t T'.heap (locs ++ L) e1.symm (by rw [← e2]; exact X'.warmed.alike) hp hb k1 k2 k3 (by rw [e1]; exact hce) hcv hcl T' rfl X'
    exact ⟨t2, st.trans a1, b1⟩
/-- caught by the row x of this method's table; the rows ahead don't take it -/
theorem vx_catch {own name : String} {E : String} {ce : Cell} {q : Addr} (hown : s.vm.findClass own = some m.cls) (pre : List ExceptionTableEntry) (x : ExceptionTableEntry) (suf : List ExceptionTableEntry) (hsplit : c.exceptionTable.toList = pre ++ x :: suf)
    (hpass : ∀ z ∈ pre, covers z pc = false ∨ (z.catchType ≠ 0 ∧ ∃ nm : String, (Cond.classLink own z.catchType nm).before args s = true ∧ va_Nc E nm s)) (hx : covers x pc = true) (h0 : x.catchType ≠ 0)
    (hlink : (Cond.classLink own x.catchType name).before args s = true) (hcast : (Cond.castable E name).before args s = true) (hcell : H[q]? = some ce) (hv : ce.vm = .none) (hcl : s.vm.findClass E = some ce.cls)
    (kk : W p l e R s m args below meth c H locs cells slots Q (F0 m x.handlerPc ls [.ref q])) : vx_W p l e R s m args below meth c H locs cells slots Q (F0 m pc ls rest) q := by
  intro T hT X
  have hpl : e.platform.magicAccessors = ({} : Platform).magicAccessors := by rw [X.admits.platform]
  obtain ⟨c3, c4, hc3, hc4, hasg⟩ := Cond.castable_spec hcast
  cases Option.some.inj (hc3.symm.trans hcl)
  obtain ⟨c5, hc5, hcl5⟩ := Cond.classLink_spec hown hlink e.platform hpl
  cases Option.some.inj (hc4.symm.trans hc5)
  obtain ⟨vm', X', st⟩ := X.thenCaughtThrough q (g := F0 m pc ls rest) rfl (Steps.refl _) (by rw [hT]; exact hcell) (by rw [hv]; rfl) (by obtain ⟨k9, h9, -⟩ := Vm.findClass_spec hcl; exact ⟨k9, h9⟩) pre x suf hsplit
    (fun z hz => by
      rcases hpass z hz with h | ⟨hz0, nm, hl1, hn1⟩
      · exact Or.inl h
      · obtain ⟨c6, hc6, hcl6⟩ := Cond.classLink_spec hown hl1 e.platform hpl
        obtain ⟨a8, b8, h1, h2, h3⟩ := hn1
        cases Option.some.inj (h1.symm.trans hcl)
        cases Option.some.inj (h2.symm.trans hc6)
        exact Or.inr ⟨hz0, _, hcl6, h3⟩) hx (Or.inr ⟨h0, c4, hcl5, hasg⟩)
  obtain ⟨t, a1, b1⟩ := kk (T.setVm vm') hT X'
  exact ⟨t, st.trans a1, b1⟩
end Rows
section Ends
variable {p : Program} {l : Launch} {e : Env} {R : Room} {s : State} {m : MethodId} {args : Array Value} {below : List Frame} {meth : Method} {c : Code} {H : Heap} {locs : List Loc} {cells slots : Nat} {Q : State → Prop}
variable {mc ms : Nat} {free : Addr → Prop} {A0 A1 : Nat → Prop} {H0 : Heap} {a : Array Value} {ls : Array Slot} {st0 rest : List Value}
variable {Qc : Array Value → State → Outcome → State → Prop} {XC : String → State → State → Prop}
/-- what a body that may throw owes at its end -/
def vx_MQ (below : List Frame) (Qc : Array Value → State → Outcome → State → Prop) (XC : String → State → State → Prop) (a : Array Value) (s : State) (mc ms : Nat) (free : Addr → Prop) : State → Prop := fun t =>
  ∃ o, t.status = .running ∧ Ended t below o ∧ vx_Q Qc XC mc ms free a s o t
theorem vx_ret {g : JFrame} {mc ms : Nat} (k : W p l e R s m args below meth c H locs cells slots (MQ below Qc args s mc ms free) g) : W p l e R s m args below meth c H locs cells slots (vx_MQ below Qc XC args s mc ms free) g := by
  intro T hT X
  obtain ⟨t, a1, o, b1, b2, b3, b4⟩ := k T hT X
  exact ⟨t, a1, o, b1, b2, Or.inl ⟨b3, b4⟩⟩
/-- not caught here: it goes on to the caller -/
theorem vx_widen {g : JFrame} {q : Addr} {k n : Nat} (h1 : cells ≤ k) (h2 : slots ≤ n) (kk : vx_W p l e R s m args below meth c H locs k n Q g q) : vx_W p l e R s m args below meth c H locs cells slots Q g q := fun T hT X => kk T hT (stand_widen X h1 h2)
theorem vx_out {pc : Nat} {E : String} {ce : Cell} {q : Addr} {mc ms : Nat} (hout : ∀ x ∈ c.exceptionTable.toList, covers x pc = false) (hlocks : meth.locks = false) (hcell : H[q]? = some ce) (hv : ce.vm = .none) (hcl : s.vm.findClass E = some ce.cls)
    (hx : ∀ t : State, t.heap = H → s.vm.Alike t.vm → XC E s t) (hf : ∀ z ∈ locs, free z.base) (hc : cells ≤ mc) (hs : slots ≤ ms) :
    vx_W p l e R s m args below meth c H locs cells slots (vx_MQ below Qc XC args s mc ms free) (F0 m pc ls rest) q := by
  intro T hT X
  obtain ⟨st1, hrun, hend, hW, hsm⟩ := X.leaveThrown q (g := F0 m pc ls rest) rfl rfl rfl hout hlocks
  have hcell9 : (T.setFrames (.throwing q :: below)).heap[q]? = some ce := by
    show T.heap[q]? = some ce
    rw [hT]; exact hcell
  exact ⟨_, st1, .threw q, hrun, hend, Or.inr ⟨q, rfl, E, ce, locs, hx _ hT hW.alike, hcell9, hv, hcl, hW, hsm.mono hc hs, hf⟩⟩
theorem vx_frame {U : State} {k n : Nat} (h : s.sameButNew ({ U with vm := s.vm } : State) locs k n) : s.heap.size ≤ U.heap.size ∧ ∀ q : Nat, q < s.heap.size → (∀ z ∈ locs, z.base ≠ q) → U.heap[q]? = s.heap[q]? := by
  obtain ⟨-, h2, -, -, -, h6⟩ := h
  refine ⟨h2, fun q hq hz => ?_⟩
  obtain ⟨c9, e1, e2, e3, e4⟩ := h6 q _ (Array.getElem?_eq_getElem hq)
  have hs : c9.slots = (s.heap[q]).slots := Array.ext_getElem? fun i => e4 i fun hm => hz _ hm rfl
  have h9 : c9 = s.heap[q] := by
    rw [hs] at e2
    exact e2
  have e5 : U.heap[q]? = some c9 := e1
  rw [e5, h9, Array.getElem?_eq_getElem hq]
/-- the words of a throw but the four that speak of the heap -/
def vx_no (w : Cond) : Bool := decide (w ≠ .isRef (.static Bundle.tN "UNASSIGNED_STACK" Bundle.steD)) && decide (w ≠ .isRef (.static Bundle.tN "SUPPRESSED_SENTINEL" Bundle.listD)) && decide (w ≠ .laysStatic Bundle.tN "UNASSIGNED_STACK" Bundle.steD) && decide (w ≠ .laysStatic Bundle.tN "SUPPRESSED_SENTINEL" Bundle.listD)
def vx_at0 (own : String) (ic : Nat) (X : String) (names : List String) : List Cond := (Bundle.ownAtoms0 own ic X names).filter vx_no
def vx_atS (own : String) (ic : Nat) (X : String) (names : List String) : List Cond := (Bundle.ownAtoms own ic X names).filter vx_no
/-- a word that the tables alone decide, or a good one -/
def vx_ot (w : Cond) : Bool := w.onTables || goodWord w
theorem vx_ot_at {args a' : Array Value} {s U : State} {w : Cond} (hW : s.WarmedH U.vm) (hvm : s.vm = U.vm) (hg : vx_ot w = true) (h : w.before args s = true) : w.before a' U = true := by
  simp only [vx_ot, Bool.or_eq_true] at hg
  rcases hg with hg | hg
  · exact va_tabs hg hvm h
  · exact word_at hW (good_of_word hg) h
/-- a list's words: the good ones out of the method's own list, the others by premises of their own -/
theorem vx_hat {args : Array Value} {s : State} {L B : List Cond} (h1 : ∀ w ∈ L.filter goodWord, w.before args s = true) (h2 : ∀ w ∈ L.filter (fun w => !goodWord w), w ∈ B) (h3 : ∀ w ∈ B, w.before args s = true) : ∀ w ∈ L, w.before args s = true := by
  intro w hw
  by_cases g : goodWord w = true
  · exact h1 w (List.mem_filter.mpr ⟨hw, g⟩)
  · refine h3 w (h2 w (List.mem_filter.mpr ⟨hw, ?_⟩))
    show (!goodWord w) = true
    cases hgw : goodWord w
    · rfl
    · exact absurd hgw g
theorem vx_c {args : Array Value} {s : State} {w : Cond} {B : List Cond} (h : w.before args s = true) (t : ∀ w ∈ B, w.before args s = true) : ∀ w' ∈ w :: B, w'.before args s = true := fun w' h' => (List.mem_cons.mp h').elim (fun e => by rw [e]; exact h) (t w')
theorem vx_n {args : Array Value} {s : State} : ∀ w ∈ ([] : List Cond), w.before args s = true := fun _ h => nomatch h
theorem vx_own {args : Array Value} {s : State} {L : List Cond} (h1 : ∀ w ∈ L.filter vx_no, w.before args s = true)
    (hU : (Cond.isRef (.static Bundle.tN "UNASSIGNED_STACK" Bundle.steD)).before args s = true) (hN : (Cond.isRef (.static Bundle.tN "SUPPRESSED_SENTINEL" Bundle.listD)).before args s = true)
    (lU : (Cond.laysStatic Bundle.tN "UNASSIGNED_STACK" Bundle.steD).before args s = true) (lN : (Cond.laysStatic Bundle.tN "SUPPRESSED_SENTINEL" Bundle.listD).before args s = true) : ∀ w ∈ L, w.before args s = true := by
  intro w hw
  by_cases e1 : w = .isRef (.static Bundle.tN "UNASSIGNED_STACK" Bundle.steD)
  · rw [e1]; exact hU
  · by_cases e2 : w = .isRef (.static Bundle.tN "SUPPRESSED_SENTINEL" Bundle.listD)
    · rw [e2]; exact hN
    · by_cases e3 : w = .laysStatic Bundle.tN "UNASSIGNED_STACK" Bundle.steD
      · rw [e3]; exact lU
      · by_cases e4 : w = .laysStatic Bundle.tN "SUPPRESSED_SENTINEL" Bundle.listD
        · rw [e4]; exact lN
        · exact h1 w (List.mem_filter.mpr ⟨hw, by unfold vx_no; rw [decide_eq_true e1, decide_eq_true e2, decide_eq_true e3, decide_eq_true e4]; rfl⟩)
/-- where a static field lies, its class's statics cell in H -/
def vx_L (C n d : String) (A : Nat → Prop) (U : State) (H : Heap) : Prop := ∃ (c : ClassId) (k : Class) (i : Nat) (f : Field) (a : Nat) (cell : Cell), U.vm.findClass C = some c ∧ U.fieldFound? C n d = some (c, k, i, f) ∧ f.isStatic = true ∧ k.statics = some a ∧ H[a]? = some cell ∧ cell.vm.isStatics = true ∧ cell.cls = c ∧ f.slot < cell.slots.size ∧ k.staticTypes[f.slot]? = some f.type ∧ ¬ A a
theorem vx_L.moved {C n d : String} {A : Nat → Prop} {u U : State} {H : Heap} (hvm : u.vm.Alike U.vm) (h : vx_L C n d A u H) : vx_L C n d A U H := by
  obtain ⟨c, k, i, f, a, cell, h1, h2, h3, h4, h5, h6, h7, h8, h9, h10⟩ := h
  obtain ⟨k', hi', he⟩ := State.fieldFound?_setVm hvm h2
  exact ⟨c, k', i, f, a, cell, by rw [hvm.findClass]; exact h1, hi', h3, by rw [he]; exact h4, h5, h6, h7, h8, by rw [he]; exact h9, h10⟩
theorem vx_L.kept {C n d : String} {A : Nat → Prop} {U : State} {H H1 : Heap} (h : vx_L C n d A U H) (hq : ∀ a : Nat, a < H.size → ¬ A a → H1[a]? = H[a]?) : vx_L C n d A U H1 := by
  obtain ⟨c, k, i, f, a, cell, h1, h2, h3, h4, h5, h6, h7, h8, h9, h10⟩ := h
  exact ⟨c, k, i, f, a, cell, h1, h2, h3, h4, by rw [hq a (Array.getElem?_eq_some_iff.mp h5).1 h10]; exact h5, h6, h7, h8, h9, h10⟩
theorem vx_L.narrow {C n d : String} {A B : Nat → Prop} {U : State} {H : Heap} (h : vx_L C n d A U H) (hAB : ∀ q, B q → A q) : vx_L C n d B U H := by
  obtain ⟨c, k, i, f, a, cell, h1, h2, h3, h4, h5, h6, h7, h8, h9, h10⟩ := h
  exact ⟨c, k, i, f, a, cell, h1, h2, h3, h4, h5, h6, h7, h8, h9, fun z => h10 (hAB _ z)⟩
theorem vx_L.word {C n d : String} {A : Nat → Prop} {s : State} {args : Array Value} (h : vx_L C n d A s s.heap) : (Cond.laysStatic C n d).before args s = true := by
  obtain ⟨c, k, i, f, a, cell, h1, h2, h3, h4, h5, h6, h7, h8, h9, -⟩ := h
  show (Cond.laysStatic C n d).holds args s none s [] = true
  exact Cond.laysStatic_of h1 h2 h3 h4 h5 h6 h7 h8 h9
/-- .. and what it holds: null or some reference -/
def vx_Zq (C n d : String) (A : Nat → Prop) (U : State) (H : Heap) : Prop := va_Zq C n d A U H ∧ vx_L C n d A U H
theorem vx_Zq.moved {C n d : String} {A : Nat → Prop} {u U : State} {H : Heap} (hvm : u.vm.Alike U.vm) (h : vx_Zq C n d A u H) : vx_Zq C n d A U H := ⟨va_Zq.moved hvm h.1, vx_L.moved hvm h.2⟩
theorem vx_Zq.kept {C n d : String} {A : Nat → Prop} {U : State} {H H1 : Heap} (h : vx_Zq C n d A U H) (hq : ∀ a : Nat, a < H.size → ¬ A a → H1[a]? = H[a]?) : vx_Zq C n d A U H1 := ⟨va_Zq.kept h.1 hq, vx_L.kept h.2 hq⟩
theorem vx_Zq.narrow {C n d : String} {A B : Nat → Prop} {U : State} {H : Heap} (h : vx_Zq C n d A U H) (hAB : ∀ q, B q → A q) : vx_Zq C n d B U H := ⟨va_Zq.narrow h.1 hAB, vx_L.narrow h.2 hAB⟩
theorem vx_Zqof {args : Array Value} {s : State} {C n d : String} {A : Nat → Prop} (hl : (Cond.laysStatic C n d).before args s = true) (hini : (Cond.initialized C).before args s = true) (h : (Cond.isRef (.static C n d)).before args s = true) (hA : ∀ a : Nat, a < s.heap.size → ¬ A a) : vx_Zq C n d A s s.heap := by
  refine ⟨va_Zqof hl hini h hA, ?_⟩
  obtain ⟨c, k, i, f, a, cell, h1, h2, h3, h4, h5, h6, h7, h8, h9⟩ := Cond.laysStatic_spec hl
  exact ⟨c, k, i, f, a, cell, h1, h2, h3, h4, h5, h6, h7, h8, h9, hA a (Array.getElem?_eq_some_iff.mp h5).1⟩
theorem vx_isRef {C n d : String} {v : Value} {A : Nat → Prop} {s : State} {args : Array Value} (h : va_Z C n d v A s s.heap) (hv : v.isRef = true) : (Cond.isRef (.static C n d)).before args s = true := by
  obtain ⟨cf, kf, fi, f, a, cell, h1, h2, h3, h4, h5, h6, h7, -⟩ := h
  have he : (Term.static C n d).eval args s none [] s = some v := by
    simp [Term.eval, State.fieldNamed?, h1, h2, h4, h5, h6, h7]
  simp only [Cond.before, Cond.holds, Cond.value, he]
  cases v <;> simp_all [Value.isRef]
theorem vx_isRefq {C n d : String} {A : Nat → Prop} {s : State} {args : Array Value} (h : va_Zq C n d A s s.heap) : (Cond.isRef (.static C n d)).before args s = true := by
  rcases h with h | ⟨t, h⟩
  · exact vx_isRef h rfl
  · exact vx_isRef h rfl
/-- the same frame, seen from here: as if the method were called anew in this heap -/
theorem vx_rebase {T : State} (X : Stand p l e R s m args below meth c T locs cells slots) {R' : Room} (hf : R'.frames ≤ R.frames) (hl : R'.locals ≤ R.locals) (hc : cells + R'.cells ≤ R.cells) (hs : slots + R'.slots ≤ R.slots) :
    Stand p l e R' ((T.setVm s.vm).setFrames (.invoking m args :: below)) m args below meth c T [] 0 0 := by
  have htop : (T.setVm s.vm).topJava?.isSome := X.here.top
  have hF : ((T.setVm s.vm).setFrames (.invoking m args :: below)).frames = .invoking m args :: below := State.frames_setFrames _ (State.cur_lt_of_top htop)
  obtain ⟨g₀, hg0⟩ := Option.isSome_iff_exists.mp htop
  obtain ⟨r, hr⟩ := State.topJava?_eq_some.mp hg0
  have hl9 : e.platform.stackLimits (T.setVm s.vm).me = e.platform.stackLimits s.me := X.limits
  have hb9 : (T.setVm s.vm).me.stackBytes = s.me.stackBytes := X.bytes
  refine ⟨X.admits, X.cas, X.clock, hF, ?_, X.hears, X.method, X.code, X.here, X.tail, X.warmed, ?_, ?_, ?_⟩
  · have h := X.room
    have hU : ((T.setVm s.vm).setFrames (.invoking m args :: below)).localsInUse = s.localsInUse := by
      rw [State.localsInUse_invoking hF (meth := meth) (c := c) X.method X.code, State.localsInUse_invoking X.frames X.method X.code]
    simp only [State.hasRoom, Bool.and_eq_true, decide_eq_true_eq] at h ⊢
    obtain ⟨⟨⟨⟨h1, h2, h3, h4, h5, h6⟩, h7⟩, h8⟩, h9⟩ := h
    rw [X.frames, List.length_cons] at h2 h3
    have q1 := X.heapSize
    have q2 := X.used
    simp only [hF, hU, List.length_cons, State.stackLimits_setFrames, State.stackBytes_setFrames, hl9, hb9]
    refine ⟨⟨⟨⟨by omega, by omega, by omega, by omega, by omega, h6⟩, ?_⟩, ?_⟩, X.book⟩
    · show T.heap.size + R'.cells ≤ e.platform.maxCells
      omega
    · show T.slotsUsed + R'.slots ≤ e.platform.maxSlots
      omega
  · rw [State.stackLimits_setFrames]; rfl
  · rw [State.stackBytes_setFrames]; rfl
  · refine ⟨?_, Nat.le_refl _, Nat.le_refl _, ?_, ?_, fun a c9 h9 => ⟨c9, h9, rfl, rfl, fun _ _ => rfl⟩⟩
    · obtain ⟨t, ht, -⟩ := State.frames_cons hr
      show T.setVm s.vm = { ((T.setVm s.vm).setFrames (.invoking m args :: below)).setFrames (T.setVm s.vm).frames with heap := T.heap, slotsUsed := T.slotsUsed }
      rw [State.setFrames_setFrames, State.setFrames_self ht]
      rfl
    · show T.slotsUsed = T.slotsUsed + ((T.heap.toList.drop T.heap.size).map (·.slots.size)).sum
      rw [List.drop_eq_nil_of_le (Nat.le_of_eq Array.length_toList)]
      rfl
    · show ((T.heap.toList.drop T.heap.size).map (·.slots.size)).sum ≤ 0
      rw [List.drop_eq_nil_of_le (Nat.le_of_eq Array.length_toList)]
      exact Nat.le_refl _
/-- 'throw new E()': new; dup; invokespecial; athrow -/
theorem vx_throw0 {cc : ByteArray} {pc : Nat} (hexec : p.tables.exec = Jvm.exec) (hb : c.code = cc) (hl : l.stackTraces = false) {own cls : String} {names : List String} {ik ic mc ms : Nat} {A : Nat → Prop}
    (hown : s.vm.findClass own = some m.cls) (hcls : Bundle.fit cls = true) (hnames : ∀ n ∈ names, Bundle.fit n = true)
    (hk : (Cond.classLink own ik cls).before args s = true) (hini : (Cond.initialized cls).before args s = true) (hat : ∀ w ∈ vx_at0 own ic cls names, w.before args s = true)
    (hgood : ∀ w ∈ Cond.classLink own ik cls :: Cond.initialized cls :: vx_at0 own ic cls names, vx_ot w = true)
    (hU : vx_Zq Bundle.tN "UNASSIGNED_STACK" Bundle.steD A s s.heap) (hN : vx_Zq Bundle.tN "SUPPRESSED_SENTINEL" Bundle.listD A s s.heap) (hS : va_S A s.heap H locs) (hsize : ls.size = c.maxLocals)
    (d0 : decode cc pc = .ok (.new ik, 3)) (d3 : decode cc (pc + 3) = .ok (.dup, 1)) (d4 : decode cc (pc + 4) = .ok (.invokespecial ic, 3)) (d7 : decode cc (pc + 7) = .ok (.athrow, 1))
    (hout : ∀ x ∈ c.exceptionTable.toList, covers x (pc + 7) = false)
    (hRframes : names.length + 3 < R.frames) (hRlocals : (rest.map fun v => v.category).sum + (13 * (names.length + 1) + 42) ≤ R.locals) (hRcells : cells + 1 ≤ R.cells) (hRslots : slots + 6 ≤ R.slots) (hlocks : meth.locks = false)
    (hx : ∀ t : State, s.vm.Alike t.vm → H.size ≤ t.heap.size → (∀ q : Nat, q < H.size → t.heap[q]? = H[q]?) → XC cls s t)
    (hf : ∀ z ∈ locs, free z.base) (hc : cells + 1 ≤ mc) (hs : slots + 6 ≤ ms) :
    W p l e R s m args below meth c H locs cells slots (vx_MQ below Qc XC args s mc ms free) (F0 m pc ls rest) := by
  intro T hT X
  have htr : e.platform.stackTraces = false := (show e.platform.stackTraces = l.stackTraces by rw [X.admits.platform]).trans hl
  have Y := vx_rebase X (R' := { frames := R.frames, locals := R.locals, cells := 1, slots := 6 }) (Nat.le_refl _) (Nat.le_refl _) hRcells hRslots
  obtain ⟨s', hA⟩ : ∃ z, z = (T.setVm s.vm).setFrames (.invoking m args :: below) := ⟨_, rfl⟩
  rw [← hA] at Y
  have hvm : s'.vm = s.vm := by rw [hA]; rfl
  have hhp : s'.heap = H := by rw [hA]; exact hT
  have hW0 : s.WarmedH s'.vm := by rw [hvm]; exact State.WarmedH.refl s
  have hat' : ∀ w ∈ vx_at0 own ic cls names, w.before args s' = true := fun w hw => vx_ot_at hW0 hvm.symm (hgood w (List.mem_cons_of_mem _ (List.mem_cons_of_mem _ hw))) (hat w hw)
  have hk' : (Cond.classLink own ik cls).before args s' = true := vx_ot_at hW0 hvm.symm (hgood _ List.mem_cons_self) hk
  have hini' : (Cond.initialized cls).before args s' = true := vx_ot_at hW0 hvm.symm (hgood _ (List.mem_cons_of_mem _ List.mem_cons_self)) hini
  have hU' : vx_Zq Bundle.tN "UNASSIGNED_STACK" Bundle.steD A s' s'.heap := by rw [hhp]; exact vx_Zq.moved hW0.alike (hU.kept hS.2.1)
  have hN' : vx_Zq Bundle.tN "SUPPRESSED_SENTINEL" Bundle.listD A s' s'.heap := by rw [hhp]; exact vx_Zq.moved hW0.alike (hN.kept hS.2.1)
  have h : ∀ w ∈ Bundle.ownAtoms0 own ic cls names, w.before args s' = true := vx_own hat' (vx_isRefq hU'.1) (vx_isRefq hN'.1) hU'.2.word hN'.2.word
  have hown' : s'.vm.findClass own = some m.cls := by rw [hvm]; exact hown
  have hins : (Cond.instantiable cls 6).before args s' = true := h _ (by simp [Bundle.ownAtoms0])
  obtain ⟨vm₁, cX, kX, hfX, hkX, -, -, X₁, st1⟩ := Y.newCold hexec (own := own) (C := cls) (index := ik) (n := 6) hown' hk' hins hini'
    (g := F0 m pc ls rest) rfl (by rw [hb]; exact d0) (Nat.le_refl _) (Nat.le_refl _)
  generalize hT1 : (T.setVm vm₁).pushCell { cls := cX, slots := kX.instanceTypes.map defaultValue, vm := .none } = T1 at X₁ st1
  have hcat : (Value.ref T.heap.size).category = 1 := rfl
  have hcellA : T1.heap[T.heap.size]? = some (freshCell cX kX) := by rw [← hT1]; exact State.heap_pushCell_size _ _
  have d3' : decode c.code (pc + 3) = .ok (.dup, 1) := by rw [hb]; exact d3
  obtain ⟨U, hsteps, hrun, hend, hW, hsame, ce, hce, hO⟩ := X₁.ctorThrow0 hexec htr (own := own) (cls := cls) (names := names) (ic := ic) hown' hcls hnames h (fun x hx => nomatch hx) hfX hkX hcellA (by rw [hhp, hT]; exact Nat.le_refl _)
    (g := { method := m, pc := pc + 4, locals := ls, stack := .ref T.heap.size :: .ref T.heap.size :: rest, locked := none }) rfl hsize rfl rfl (rest := rest) rfl
    (by rw [hb]; exact d4) (by rw [hb]; exact d7) hout hRframes (by simp only [List.map_cons, List.sum_cons, hcat]; omega) hlocks
  obtain ⟨f1, f2⟩ := vx_frame hsame
  rw [hhp] at f1 f2
  have hWs : s.WarmedH U.vm := State.WarmedH.trans hW0 hW
  have hcl : s.vm.findClass cls = some ce.cls := by
    have h9 := hO.cls
    rw [hvm] at h9
    exact h9
  have hall : s.sameButNew ({ U with vm := s.vm } : State) locs mc ms := by
    subst hA
    obtain ⟨e1, e2⟩ := hsame
    rw [State.setFrames_setFrames] at e1
    have h2 : (T.setVm s.vm).sameButNew ({ U with vm := s.vm } : State) [] (0 + 1) (0 + 6) := ⟨e1, e2⟩
    have h3 := X.same.trans h2
    rw [List.append_nil] at h3
    exact h3.mono hc hs
  refine ⟨U, ?_, .threw T.heap.size, hrun, hend, Or.inr ⟨T.heap.size, rfl, cls, ce, locs, hx U hWs.alike f1 (fun q hq => f2 q hq (fun z hz => nomatch hz)), hce, hO.vm, hcl, hWs, hall, hf⟩⟩
  refine st1 _ ?_
  show Steps p.tables e below (T1.setTop { method := m, pc := pc + 3, locals := ls, stack := .ref T.heap.size :: rest, locked := none }) _
  jvm_step X₁.here [X₁.here.top, hexec, d3', Value.category]
  exact hsteps
/-- 'throw new E("text")': new; dup; ldc; invokespecial; athrow -/
theorem vx_throwS {cc : ByteArray} {pc : Nat} (hexec : p.tables.exec = Jvm.exec) (hb : c.code = cc) (hl : l.stackTraces = false) {own cls text : String} {names : List String} {ik is ic mc ms sa : Nat} {A : Nat → Prop}
    (hown : s.vm.findClass own = some m.cls) (hcls : Bundle.fit cls = true) (hnames : ∀ n ∈ names, Bundle.fit n = true)
    (hk : (Cond.classLink own ik cls).before args s = true) (hini : (Cond.initialized cls).before args s = true) (hstr : vk_R own is text sa s) (hat : ∀ w ∈ vx_atS own ic cls names, w.before args s = true)
    (hgood : ∀ w ∈ Cond.classLink own ik cls :: Cond.initialized cls :: vx_atS own ic cls names, vx_ot w = true)
    (hU : vx_Zq Bundle.tN "UNASSIGNED_STACK" Bundle.steD A s s.heap) (hN : vx_Zq Bundle.tN "SUPPRESSED_SENTINEL" Bundle.listD A s s.heap) (hS : va_S A s.heap H locs) (hsize : ls.size = c.maxLocals)
    (d0 : decode cc pc = .ok (.new ik, 3)) (d3 : decode cc (pc + 3) = .ok (.dup, 1)) (d4 : decode cc (pc + 4) = .ok (.ldc is, 2)) (d6 : decode cc (pc + 6) = .ok (.invokespecial ic, 3)) (d9 : decode cc (pc + 9) = .ok (.athrow, 1))
    (hout : ∀ x ∈ c.exceptionTable.toList, covers x (pc + 9) = false)
    (hRframes : names.length + 3 < R.frames) (hRlocals : (rest.map fun v => v.category).sum + (13 * (names.length + 1) + 43) ≤ R.locals) (hRcells : cells + 1 ≤ R.cells) (hRslots : slots + 6 ≤ R.slots) (hlocks : meth.locks = false)
    (hx : ∀ t : State, s.vm.Alike t.vm → H.size ≤ t.heap.size → (∀ q : Nat, q < H.size → t.heap[q]? = H[q]?) → XC cls s t)
    (hf : ∀ z ∈ locs, free z.base) (hc : cells + 1 ≤ mc) (hs : slots + 6 ≤ ms) :
    W p l e R s m args below meth c H locs cells slots (vx_MQ below Qc XC args s mc ms free) (F0 m pc ls rest) := by
  intro T hT X
  have htr : e.platform.stackTraces = false := (show e.platform.stackTraces = l.stackTraces by rw [X.admits.platform]).trans hl
  have Y := vx_rebase X (R' := { frames := R.frames, locals := R.locals, cells := 1, slots := 6 }) (Nat.le_refl _) (Nat.le_refl _) hRcells hRslots
  obtain ⟨s', hA⟩ : ∃ z, z = (T.setVm s.vm).setFrames (.invoking m args :: below) := ⟨_, rfl⟩
  rw [← hA] at Y
  have hvm : s'.vm = s.vm := by rw [hA]; rfl
  have hhp : s'.heap = H := by rw [hA]; exact hT
  have hW0 : s.WarmedH s'.vm := by rw [hvm]; exact State.WarmedH.refl s
  have hat' : ∀ w ∈ vx_atS own ic cls names, w.before args s' = true := fun w hw => vx_ot_at hW0 hvm.symm (hgood w (List.mem_cons_of_mem _ (List.mem_cons_of_mem _ hw))) (hat w hw)
  have hk' : (Cond.classLink own ik cls).before args s' = true := vx_ot_at hW0 hvm.symm (hgood _ List.mem_cons_self) hk
  have hini' : (Cond.initialized cls).before args s' = true := vx_ot_at hW0 hvm.symm (hgood _ (List.mem_cons_of_mem _ List.mem_cons_self)) hini
  have hU' : vx_Zq Bundle.tN "UNASSIGNED_STACK" Bundle.steD A s' s'.heap := by rw [hhp]; exact vx_Zq.moved hW0.alike (hU.kept hS.2.1)
  have hN' : vx_Zq Bundle.tN "SUPPRESSED_SENTINEL" Bundle.listD A s' s'.heap := by rw [hhp]; exact vx_Zq.moved hW0.alike (hN.kept hS.2.1)
  have h : ∀ w ∈ Bundle.ownAtoms own ic cls names, w.before args s' = true := vx_own hat' (vx_isRefq hU'.1) (vx_isRefq hN'.1) hU'.2.word hN'.2.word
  have hown' : s'.vm.findClass own = some m.cls := by rw [hvm]; exact hown
  have hins : (Cond.instantiable cls 6).before args s' = true := h _ (by simp [Bundle.ownAtoms])
  obtain ⟨vm₁, cX, kX, hfX, hkX, -, -, X₁, st1⟩ := Y.newCold hexec (own := own) (C := cls) (index := ik) (n := 6) hown' hk' hins hini'
    (g := F0 m pc ls rest) rfl (by rw [hb]; exact d0) (Nat.le_refl _) (Nat.le_refl _)
  generalize hT1 : (T.setVm vm₁).pushCell { cls := cX, slots := kX.instanceTypes.map defaultValue, vm := .none } = T1 at X₁ st1
  have hcat : (Value.ref T.heap.size).category = 1 := rfl
  have hcellA : T1.heap[T.heap.size]? = some (freshCell cX kX) := by rw [← hT1]; exact State.heap_pushCell_size _ _
  have d3' : decode c.code (pc + 3) = .ok (.dup, 1) := by rw [hb]; exact d3
  have d4' : decode c.code (pc + 4) = .ok (.ldc is, 2) := by rw [hb]; exact d4
  have hstr' : vk_R own is text sa s' := vk_R.warm hW0 hstr
  obtain ⟨U, hsteps, hrun, hend, hW, hsame, ce, hce, hO⟩ := X₁.ctorThrowS hexec htr (own := own) (cls := cls) (names := names) (ic := ic) hown' hcls hnames h (fun x hx => nomatch hx) hfX hkX hcellA (by rw [hhp, hT]; exact Nat.le_refl _) (msg := .ref sa) rfl
    (g := { method := m, pc := pc + 6, locals := ls, stack := .ref sa :: .ref T.heap.size :: .ref T.heap.size :: rest, locked := none }) rfl hsize rfl rfl (rest := rest) rfl
    (by rw [hb]; exact d6) (by rw [hb]; exact d9) hout hRframes (by simp only [List.map_cons, List.sum_cons, hcat]; omega) hlocks
  obtain ⟨f1, f2⟩ := vx_frame hsame
  rw [hhp] at f1 f2
  have hWs : s.WarmedH U.vm := State.WarmedH.trans hW0 hW
  have hcl : s.vm.findClass cls = some ce.cls := by
    have h9 := hO.cls
    rw [hvm] at h9
    exact h9
  have hall : s.sameButNew ({ U with vm := s.vm } : State) locs mc ms := by
    subst hA
    obtain ⟨e1, e2⟩ := hsame
    rw [State.setFrames_setFrames] at e1
    have h2 : (T.setVm s.vm).sameButNew ({ U with vm := s.vm } : State) [] (0 + 1) (0 + 6) := ⟨e1, e2⟩
    have h3 := X.same.trans h2
    rw [List.append_nil] at h3
    exact h3.mono hc hs
  refine ⟨U, ?_, .threw T.heap.size, hrun, hend, Or.inr ⟨T.heap.size, rfl, cls, ce, locs, hx U hWs.alike f1 (fun q hq => f2 q hq (fun z hz => nomatch hz)), hce, hO.vm, hcl, hWs, hall, hf⟩⟩
  refine st1 _ ?_
  show Steps p.tables e below (T1.setTop { method := m, pc := pc + 3, locals := ls, stack := .ref T.heap.size :: rest, locked := none }) _
  jvm_step X₁.here [X₁.here.top, hexec, d3', Value.category]
  exact X₁.ldcString hexec (own := own) (text := text) (index := is) (a := sa) hown' hstr'.1 hstr'.2
    (g := { method := m, pc := pc + 4, locals := ls, stack := .ref T.heap.size :: .ref T.heap.size :: rest, locked := none }) rfl d4' _ hsteps
/-- 'throw new E("text")', the text by a wide index -/
theorem vx_throwSW {cc : ByteArray} {pc : Nat} (hexec : p.tables.exec = Jvm.exec) (hb : c.code = cc) (hl : l.stackTraces = false) {own cls text : String} {names : List String} {ik is ic mc ms sa : Nat} {A : Nat → Prop}
    (hown : s.vm.findClass own = some m.cls) (hcls : Bundle.fit cls = true) (hnames : ∀ n ∈ names, Bundle.fit n = true)
    (hk : (Cond.classLink own ik cls).before args s = true) (hini : (Cond.initialized cls).before args s = true) (hstr : vk_R own is text sa s) (hat : ∀ w ∈ vx_atS own ic cls names, w.before args s = true)
    (hgood : ∀ w ∈ Cond.classLink own ik cls :: Cond.initialized cls :: vx_atS own ic cls names, vx_ot w = true)
    (hU : vx_Zq Bundle.tN "UNASSIGNED_STACK" Bundle.steD A s s.heap) (hN : vx_Zq Bundle.tN "SUPPRESSED_SENTINEL" Bundle.listD A s s.heap) (hS : va_S A s.heap H locs) (hsize : ls.size = c.maxLocals)
    (d0 : decode cc pc = .ok (.new ik, 3)) (d3 : decode cc (pc + 3) = .ok (.dup, 1)) (d4 : decode cc (pc + 4) = .ok (.ldc_w is, 3)) (d7 : decode cc (pc + 7) = .ok (.invokespecial ic, 3)) (d10 : decode cc (pc + 10) = .ok (.athrow, 1))
    (hout : ∀ x ∈ c.exceptionTable.toList, covers x (pc + 10) = false)
    (hRframes : names.length + 3 < R.frames) (hRlocals : (rest.map fun v => v.category).sum + (13 * (names.length + 1) + 43) ≤ R.locals) (hRcells : cells + 1 ≤ R.cells) (hRslots : slots + 6 ≤ R.slots) (hlocks : meth.locks = false)
    (hx : ∀ t : State, s.vm.Alike t.vm → H.size ≤ t.heap.size → (∀ q : Nat, q < H.size → t.heap[q]? = H[q]?) → XC cls s t)
    (hf : ∀ z ∈ locs, free z.base) (hc : cells + 1 ≤ mc) (hs : slots + 6 ≤ ms) :
    W p l e R s m args below meth c H locs cells slots (vx_MQ below Qc XC args s mc ms free) (F0 m pc ls rest) := by
  intro T hT X
  have htr : e.platform.stackTraces = false := (show e.platform.stackTraces = l.stackTraces by rw [X.admits.platform]).trans hl
  have Y := vx_rebase X (R' := { frames := R.frames, locals := R.locals, cells := 1, slots := 6 }) (Nat.le_refl _) (Nat.le_refl _) hRcells hRslots
  obtain ⟨s', hA⟩ : ∃ z, z = (T.setVm s.vm).setFrames (.invoking m args :: below) := ⟨_, rfl⟩
  rw [← hA] at Y
  have hvm : s'.vm = s.vm := by rw [hA]; rfl
  have hhp : s'.heap = H := by rw [hA]; exact hT
  have hW0 : s.WarmedH s'.vm := by rw [hvm]; exact State.WarmedH.refl s
  have hat' : ∀ w ∈ vx_atS own ic cls names, w.before args s' = true := fun w hw => vx_ot_at hW0 hvm.symm (hgood w (List.mem_cons_of_mem _ (List.mem_cons_of_mem _ hw))) (hat w hw)
  have hk' : (Cond.classLink own ik cls).before args s' = true := vx_ot_at hW0 hvm.symm (hgood _ List.mem_cons_self) hk
  have hini' : (Cond.initialized cls).before args s' = true := vx_ot_at hW0 hvm.symm (hgood _ (List.mem_cons_of_mem _ List.mem_cons_self)) hini
  have hU' : vx_Zq Bundle.tN "UNASSIGNED_STACK" Bundle.steD A s' s'.heap := by rw [hhp]; exact vx_Zq.moved hW0.alike (hU.kept hS.2.1)
  have hN' : vx_Zq Bundle.tN "SUPPRESSED_SENTINEL" Bundle.listD A s' s'.heap := by rw [hhp]; exact vx_Zq.moved hW0.alike (hN.kept hS.2.1)
  have h : ∀ w ∈ Bundle.ownAtoms own ic cls names, w.before args s' = true := vx_own hat' (vx_isRefq hU'.1) (vx_isRefq hN'.1) hU'.2.word hN'.2.word
  have hown' : s'.vm.findClass own = some m.cls := by rw [hvm]; exact hown
  have hins : (Cond.instantiable cls 6).before args s' = true := h _ (by simp [Bundle.ownAtoms])
  obtain ⟨vm₁, cX, kX, hfX, hkX, -, -, X₁, st1⟩ := Y.newCold hexec (own := own) (C := cls) (index := ik) (n := 6) hown' hk' hins hini'
    (g := F0 m pc ls rest) rfl (by rw [hb]; exact d0) (Nat.le_refl _) (Nat.le_refl _)
  generalize hT1 : (T.setVm vm₁).pushCell { cls := cX, slots := kX.instanceTypes.map defaultValue, vm := .none } = T1 at X₁ st1
  have hcat : (Value.ref T.heap.size).category = 1 := rfl
  have hcellA : T1.heap[T.heap.size]? = some (freshCell cX kX) := by rw [← hT1]; exact State.heap_pushCell_size _ _
  have d3' : decode c.code (pc + 3) = .ok (.dup, 1) := by rw [hb]; exact d3
  have d4' : decode c.code (pc + 4) = .ok (.ldc_w is, 3) := by rw [hb]; exact d4
  have hstr' : vk_R own is text sa s' := vk_R.warm hW0 hstr
  obtain ⟨U, hsteps, hrun, hend, hW, hsame, ce, hce, hO⟩ := X₁.ctorThrowS hexec htr (own := own) (cls := cls) (names := names) (ic := ic) hown' hcls hnames h (fun x hx => nomatch hx) hfX hkX hcellA (by rw [hhp, hT]; exact Nat.le_refl _) (msg := .ref sa) rfl
    (g := { method := m, pc := pc + 7, locals := ls, stack := .ref sa :: .ref T.heap.size :: .ref T.heap.size :: rest, locked := none }) rfl hsize rfl rfl (rest := rest) rfl
    (by rw [hb]; exact d7) (by rw [hb]; exact d10) hout hRframes (by simp only [List.map_cons, List.sum_cons, hcat]; omega) hlocks
  obtain ⟨f1, f2⟩ := vx_frame hsame
  rw [hhp] at f1 f2
  have hWs : s.WarmedH U.vm := State.WarmedH.trans hW0 hW
  have hcl : s.vm.findClass cls = some ce.cls := by
    have h9 := hO.cls
    rw [hvm] at h9
    exact h9
  have hall : s.sameButNew ({ U with vm := s.vm } : State) locs mc ms := by
    subst hA
    obtain ⟨e1, e2⟩ := hsame
    rw [State.setFrames_setFrames] at e1
    have h2 : (T.setVm s.vm).sameButNew ({ U with vm := s.vm } : State) [] (0 + 1) (0 + 6) := ⟨e1, e2⟩
    have h3 := X.same.trans h2
    rw [List.append_nil] at h3
    exact h3.mono hc hs
  refine ⟨U, ?_, .threw T.heap.size, hrun, hend, Or.inr ⟨T.heap.size, rfl, cls, ce, locs, hx U hWs.alike f1 (fun q hq => f2 q hq (fun z hz => nomatch hz)), hce, hO.vm, hcl, hWs, hall, hf⟩⟩
  refine st1 _ ?_
  show Steps p.tables e below (T1.setTop { method := m, pc := pc + 3, locals := ls, stack := .ref T.heap.size :: rest, locked := none }) _
  jvm_step X₁.here [X₁.here.top, hexec, d3', Value.category]
  exact X₁.ldcStringW hexec (own := own) (text := text) (index := is) (a := sa) hown' hstr'.1 hstr'.2
    (g := { method := m, pc := pc + 4, locals := ls, stack := .ref T.heap.size :: .ref T.heap.size :: rest, locked := none }) rfl d4' _ hsteps
end Ends
section Bodies
variable {l : Launch}
theorem vx_ofW {y : MethodName} {ws ws' : List Cond} {rm : Room} {Pc : Array Value → State → Prop} {Qc : Array Value → State → Outcome → State → Prop} {XC : String → State → State → Prop} {mc ms : Nat} {free : Addr → Prop} {cc : ByteArray} {maxL : Nat} {ret : Option FieldType}
    (hy : plainName y.cls = true) (hw : ws = Cond.code y cc maxL ret :: ws')
    (body : ∀ p e s m args below meth c s₁, BodyLoose p l y (headSpec ws rm) cc maxL ret e s m args below meth c s₁ → c.maxLocals = maxL → (∀ x ∈ c.exceptionTable.toList, False) → Pc args s →
      W p l e (headSpec ws rm).room s m args below meth c s.heap [] 0 0 (vx_MQ below Qc XC args s mc ms free) (entryFrame m args maxL)) : vx_Met l y ws rm Pc Qc XC mc ms free := by
  refine MetFree.of_bodyS (code := cc) (maxLocals := maxL) (ret := ret) hy ?_ ?_
  · intro args s m h hn
    obtain ⟨meth, c, h1, h2, h3, h4, h5, h6, -, -⟩ := Cond.code_spec hn (atoms_spec (ws := ws) h _ (by rw [hw]; exact List.mem_cons_self))
    exact ⟨meth, c, h1, h2, h3, h4, h5, h6⟩
  · intro p e s m args below meth c s₁ B hml hP _
    have hh0 : s₁.heap = s.heap := by rw [B.state]; rfl
    have ht : ∀ x ∈ c.exceptionTable.toList, False := by
      obtain ⟨meth9, c9, h1, h2, -, -, -, -, h7, -⟩ := Cond.code_spec B.named (atoms_spec (ws := ws) B.pre _ (by rw [hw]; exact List.mem_cons_self))
      cases Option.some.inj (h1.symm.trans B.method)
      cases Option.some.inj (h2.symm.trans (Stand.of_body B).code)
      intro x hx
      rw [Array.isEmpty_iff.mp h7] at hx
      cases hx
    obtain ⟨t, a1, o, b1, b2, b3⟩ := body p e s m args below meth c s₁ B hml ht hP s₁ hh0 (Stand.of_body B)
    exact ⟨t, o, a1, b1, b2, b3⟩
/-- the table of a body with handlers -/
theorem vx_table {p : Program} {x y : MethodName} {S : Spec} {cc bytes : ByteArray} {maxL maxL' : Nat} {ret ret' : Option FieldType} {e : Env} {s s₁ : State} {m : MethodId} {args : Array Value} {below : List Frame} {meth : Method} {c : Code} {hh : List (Nat × Nat × Nat × Nat)}
    (B : BodyLoose p l y S cc maxL ret e s m args below meth c s₁) (h : (Cond.codeWith y bytes maxL' ret' hh).before args s = true) : c.exceptionTable.toList = tableOf hh := by
  obtain ⟨m9, meth9, c9, hn9, h1, h2, -, -, h6, -⟩ := Cond.codeWith_spec h
  cases Option.some.inj (hn9.symm.trans B.named)
  cases Option.some.inj (h1.symm.trans B.method)
  cases Option.some.inj (h2.symm.trans (Stand.of_body B).code)
  rw [← h6, table_eq]
end Bodies
end VXA
/-! ===== END ===== -/
/-! ===== BEGIN a static call of a method with an exception table ===== -/
section VXS
variable {p : Program} {l : Launch} {e : Env} {R : Room} {s : State} {m : MethodId} {args : Array Value} {below : List Frame} {meth : Method} {c : Code} {T : State} {H : Heap} {locs : List Loc} {cells slots : Nat}
abbrev vx_CSW (R : Room) (s : State) (args : Array Value) (own : String) (index : Nat) (y : MethodName) (bytes : ByteArray) (maxL : Nat) (ret : Option FieldType) (hh : List (Nat × Nat × Nat × Nat)) (ws : List Cond) (rm : Room) (mc ms n : Nat) : Prop :=
  (rm.cells = mc ∧ rm.slots = ms ∧ rm.frames + 1 ≤ R.frames ∧ 8 + (maxL + 11) + rm.locals ≤ R.locals ∧ (∀ w ∈ ws, ∀ (a' : Array Value) (U : State), s.WarmedH U.vm → w.before a' U = true) ∧ Cond.codeWith y bytes maxL ret hh ∈ ws) ∧
  (Cond.codeWith y bytes maxL ret hh).before args s = true ∧ (Cond.initialized y.cls).before args s = true ∧ (y.cls ≠ "java/lang/invoke/MethodHandle" ∧ y.cls ≠ "java/lang/invoke/VarHandle") ∧
  (∀ sig, parseMethodDescriptor y.desc = some sig → n = sig.parameters.length) ∧ (Cond.methodLink own index y).before args s = true ∧ (Cond.static y).before args s = true
theorem vx_cwSW {own : String} {index maxL mc ms : Nat} {y : MethodName} {bytes : ByteArray} {ret : Option FieldType} {hh : List (Nat × Nat × Nat × Nat)} {Ts ws ws' : List Cond} {rm : Room} (n : Nat) (ht : ∀ w ∈ Ts, w.before args s = true) (hT : GoodIn Ts (va_wsS own index y ws)) (hw : ws = Cond.codeWith y bytes maxL ret hh :: ws') (hrc : rm.cells = mc) (hrs : rm.slots = ms)
    (hd : y.cls ≠ "java/lang/invoke/MethodHandle" ∧ y.cls ≠ "java/lang/invoke/VarHandle" ∧ (parseMethodDescriptor y.desc).map (fun d => d.parameters.length) = some n) (hR : rm.frames + 1 ≤ R.frames ∧ 8 + (maxL + 11) + rm.locals ≤ R.locals) :
    vx_CSW R s args own index y bytes maxL ret hh ws rm mc ms n := by
  have ok : ∀ w ∈ va_wsS own index y ws, w.before args s = true := fun w h => ht w (hT w h).1
  have hG : GoodIn Ts ws := fun w h => hT w (by unfold va_wsS; exact List.mem_append_right _ h)
  have hc : Cond.codeWith y bytes maxL ret hh ∈ ws := by rw [hw]; exact List.mem_cons_self
  refine ⟨⟨hrc, hrs, hR.1, hR.2, pay_in ht hG, hc⟩, ht _ (hG _ hc).1, ok _ (by simp [va_wsS]), ⟨hd.1, hd.2.1⟩, fun sig h => ?_, ok _ (by simp [va_wsS]), ok _ (by simp [va_wsS])⟩
  have h2 := hd.2.2
  rw [h] at h2
  exact (Option.some.inj h2).symm
theorem vx_callSW (X : Stand p l e R s m args below meth c T locs cells slots) (hexec : p.tables.exec = Jvm.exec) {own : String} {index : Nat} {y : MethodName} {bytes : ByteArray} {maxL : Nat} {ret : Option FieldType} {hh : List (Nat × Nat × Nat × Nat)}
    (hown : s.vm.findClass own = some m.cls) (hlink : (Cond.methodLink own index y).before args s = true) (hstat : (Cond.static y).before args s = true) (hinit : (Cond.initialized y.cls).before args s = true)
    (hcode : (Cond.codeWith y bytes maxL ret hh).before args s = true) (hy : y.cls ≠ "java/lang/invoke/MethodHandle" ∧ y.cls ≠ "java/lang/invoke/VarHandle")
    {W9 : Nat} {Pre : Pt → Array Value → Prop} {Post : Pt → Array Value → Option Value → Pt → Prop} (hK : Back l R p e below s args y 3 W9 Pre Post)
    {g : JFrame} (hg : g.method = m) (hsize : g.locals.size = c.maxLocals) {argsL rest : List Value} (hlen : ∀ sig, parseMethodDescriptor y.desc = some sig → argsL.length = sig.parameters.length)
    (hstack : g.stack = argsL.reverse ++ rest) (hW : 2 * g.monitorRoom + (rest.map fun v => v.category).sum ≤ W9) (hdg : decode c.code g.pc = .ok (.invokestatic index, 3))
    (hpre : ∀ vm₁, s.WarmedH vm₁ → Pre ⟨T.setVm vm₁, locs, cells, slots⟩ argsL.toArray) :
    ∃ (v : Option Value) (vm₁ : Vm) (B : Pt), s.WarmedH vm₁ ∧ Stand p l e R s m args below meth c B.U B.locs B.cells B.slots ∧ Post ⟨T.setVm vm₁, locs, cells, slots⟩ argsL.toArray v B ∧
      ∀ target, Steps p.tables e below (B.U.setTop { g with pc := g.pc + 3, stack := v.toList ++ rest }) target → Steps p.tables e below (T.setTop g) target := by
  obtain ⟨mk, methM, cM, hnamed, hmethM, -, -, -, -, -, -, hsigM⟩ := Cond.codeWith_spec hcode
  have hstatic : methM.isStatic = true := Cond.static_spec hnamed hmethM hstat
  obtain ⟨kP, hkP, -⟩ := className_of_methodNamed hnamed
  have hinitP : kP.init = .initialized := Cond.initialized_spec (findClass_of_methodNamed hnamed) hkP hinit
  obtain ⟨vm₁, X₁, hstep₁⟩ := X.invokestatic hexec hown hlink hnamed hmethM hstatic hkP hinitP hy (g := g) hg (argsL := argsL) (rest := rest) (hlen _ hsigM) hstack hdg
  obtain ⟨v, B, X', hpost, hsteps⟩ := hK m meth c ⟨T.setVm vm₁, locs, cells, slots⟩ { g with stack := rest } (.invokestatic index) mk argsL.toArray X₁ hg hsize hdg hW (X₁.named hnamed) (hpre vm₁ X₁.warmed)
  exact ⟨v, vm₁, B, X₁.warmed, X', hpost, fun target h => hstep₁ _ fun acts => by rw [doInvoke_state]; exact hsteps.trans h⟩
theorem vx_runSW {y : MethodName} {bytes cc : ByteArray} {maxL nL mc ms n index : Nat} {ret : Option FieldType} {hh : List (Nat × Nat × Nat × Nat)} {ws : List Cond} {rm : Room} {Pc : Array Value → State → Prop} {Qc : Array Value → State → Outcome → State → Prop} {free : Addr → Prop} {Ts : List Cond} {own : String} {As rest : List Value} {g : JFrame}
    (S : CallFix p m c cc nL s args Ts own) (hM : Met l y ws rm Pc Qc mc ms free) (cw : vx_CSW R s args own index y bytes maxL ret hh ws rm mc ms n) (hp : PreS s H Pc As)
    (hg : g.method = m) (hn : As.length = n) (hsize : g.locals.size = nL) (hstack : g.stack = As.reverse ++ rest) (hW : 2 * g.monitorRoom + (rest.map fun v => v.category).sum ≤ 8) (hdg : decode cc g.pc = .ok (.invokestatic index, 3)) (hf : cells + mc ≤ R.cells ∧ slots + ms ≤ R.slots) :
    va_Run p l e R s m args below meth c H locs cells slots mc ms g rest (Qc As.toArray) (free) := by
  obtain ⟨⟨hrc, hrs, hfr, hlo, hws, hcw⟩, hcode, hini, hy, hlen, hl, hstt⟩ := cw
  have hK : Back l R p e below s args y 3 8 (PreOf R mc ms Pc) (PostOf Qc mc ms free) := va_backW (hh := hh) (bytes := bytes) (maxL := maxL) (ret := ret) hM hp.1 hrc hrs hfr hlo hws hcw (fun a' U hW => word_at hW (Or.inl (by first | rfl | simp [Cond.onTables, Cond.keeps, Cond.steady])) hini)
  obtain ⟨hx, hb, hml, ho, -⟩ := S
  intro T hT X
  obtain ⟨v, vm₁, ⟨U', l2, c2, s2⟩, hW₁, X', ⟨g', mk, t, L, e1, e2, hq, h1, hL, h2, h3⟩, st⟩ := vx_callSW X hx (hh := hh) (bytes := bytes) (maxL := maxL) (ret := ret) ho hl hstt hini hcode hy hK hg (hsize.trans hml.symm) (argsL := As) (rest := rest) (fun sig h => hn.trans (hlen sig h)) hstack hW (by rw [hb]; exact hdg)
    (fun vm₁ hW₁ => ⟨hf.1, hf.2, hp.2 (T.setVm vm₁) hT hW₁⟩)
  dsimp only [Pt.U, Pt.locs, Pt.cells, Pt.slots] at X' e1 e2 h1 h2 h3 st
  subst h1; subst h2; subst h3
  exact ⟨v, (T.setVm vm₁).calling g' mk As.toArray, t, U', L, hT, X', hL, e1, e2, hq, st⟩
/-- not caught here, past rows that name other classes: it goes on to the caller -/
theorem vx_outP {p : Program} {l : Launch} {e : Env} {R : Room} {s : State} {m : MethodId} {args : Array Value} {below : List Frame} {meth : Method} {c : Code} {H : Heap} {locs : List Loc} {cells slots : Nat} {free : Addr → Prop} {ls : Array Slot} {rest : List Value} {Qc : Array Value → State → Outcome → State → Prop} {XC : String → State → State → Prop}
    {pc : Nat} {own E : String} {ce : Cell} {q : Addr} {mc ms : Nat} (hown : s.vm.findClass own = some m.cls) (hlocks : meth.locks = false)
    (hpass : ∀ z ∈ c.exceptionTable.toList, covers z pc = false ∨ (z.catchType ≠ 0 ∧ ∃ nm : String, (Cond.classLink own z.catchType nm).before args s = true ∧ va_Nc E nm s)) (hcell : H[q]? = some ce) (hv : ce.vm = .none) (hcl : s.vm.findClass E = some ce.cls)
    (hx : ∀ t : State, t.heap = H → s.vm.Alike t.vm → XC E s t) (hf : ∀ z ∈ locs, free z.base) (hc : cells ≤ mc) (hs : slots ≤ ms) :
    vx_W p l e R s m args below meth c H locs cells slots (vx_MQ below Qc XC args s mc ms free) (F0 m pc ls rest) q := by
  intro T hT X
  have hpl : e.platform.magicAccessors = ({} : Platform).magicAccessors := by rw [X.admits.platform]
  obtain ⟨vm', hW', X', st⟩ := X.outThrough hlocks q (g := F0 m pc ls rest) rfl rfl rfl (cell := ce) (by rw [hT]; exact hcell) (by rw [hv]; rfl)
    (by obtain ⟨k9, h9, -⟩ := Vm.findClass_spec hcl; exact ⟨k9, h9⟩) (fun z hz => by
      rcases hpass z hz with h | ⟨hz0, nm, hl1, hn1⟩
      · exact Or.inl h
      · obtain ⟨c6, hc6, hcl6⟩ := Cond.classLink_spec hown hl1 e.platform hpl
        obtain ⟨a8, b8, h1, h2, h3⟩ := hn1
        cases Option.some.inj (h1.symm.trans hcl)
        cases Option.some.inj (h2.symm.trans hc6)
        exact Or.inr ⟨hz0, _, hcl6, h3⟩)
  obtain ⟨g₀, hfr⟩ := X'.frames_eq
  have hcell9 : ((T.setVm vm').setFrames (.throwing q :: below)).heap[q]? = some ce := by
    show T.heap[q]? = some ce
    rw [hT]; exact hcell
  have hend : Ended ((T.setVm vm').setFrames (.throwing q :: below)) below (.threw q) := State.frames_setFrames _ (State.cur_lt_of_frames hfr)
  refine ⟨(T.setVm vm').setFrames (.throwing q :: below), ?_, .threw q, X'.here.running, hend, Or.inr ⟨q, rfl, E, ce, locs, hx _ hT (X'.ends _).1.alike, hcell9, hv, hcl, (X'.ends _).1, (X'.ends _).2.mono hc hs, hf⟩⟩
  rw [X.pushThrowing_eq]
  exact st
/-- a thing of a world lies in the heap -/
theorem vx_lt {D : va_G} {cl : List vw_C} {ws : va_W} {H1 : Heap} (h : va_P D cl ws H1) {k : Nat} {q : Nat × va_E} (hk : ws[k]? = some q) : q.1 < H1.size := (h k q hk).lt
end VXS
/-! ===== END ===== -/
/-! ===== BEGIN methods with a table of their own: called by a name, returning or throwing ===== -/
section VXH
/-! vx_backW, vx_callVX, vx_callSX, vx_callVW, vx_runVW, vx_runVX, vx_runSX, vx_ofWH follow the same proofs as their sisters above (Free/Laws.lean, Shelf42/LK1.lean); vx_outP calls Shelf42/NT130.lean (outThrough). -/
section
variable {l : Launch} {R : Room} {p : Program} {e : Env} {below : List Frame} {s : State} {sargs : Array Value} {y : MethodName} {len W9 : Nat}
theorem vx_backW {ws : List Cond} {rm : Room} {Pc : Array Value → State → Prop} {Qc : Array Value → State → Outcome → State → Prop} {XC : String → State → State → Prop} {mc ms : Nat} {free : Addr → Prop} {bytes : ByteArray} {maxL : Nat} {ret : Option FieldType} {hh : List (Nat × Nat × Nat × Nat)}
    (hM : vx_Met l y ws rm Pc Qc XC mc ms free) (hblind : FrameBlind Pc) (hrc : rm.cells = mc) (hrs : rm.slots = ms)
    (hframes : rm.frames + 1 ≤ R.frames) (hlocals : W9 + (maxL + 11) + rm.locals ≤ R.locals)
    (hws : ∀ w ∈ ws, ∀ a' U, s.WarmedH U.vm → w.before a' U = true) (hcode : Cond.codeWith y bytes maxL ret hh ∈ ws) (hinit : ∀ a' U, s.WarmedH U.vm → (Cond.initialized y.cls).before a' U = true) :
    vx_Back l R p e below s sargs y len W9 (PreOf R mc ms Pc) (PostOf Qc mc ms free) (vx_Post XC mc ms free) := by
  intro m meth c A g ig mk a X hg hsize hdg hW hn hp
  have h1 : (headSpec ws rm).pre.before a A.U = true := atoms_intro fun w hw => hws w hw _ _ X.warmed
  have h2 : (Cond.codeWith y bytes maxL ret hh).before a A.U = true := hws _ hcode _ _ X.warmed
  have h3 : (Cond.initialized y.cls).before a A.U = true := hinit _ _ X.warmed
  have h4 : A.cells + (headSpec ws rm).room.cells ≤ R.cells := by rw [show (headSpec ws rm).room.cells = mc from hrc]; exact hp.1
  have h5 : A.slots + (headSpec ws rm).room.slots ≤ R.slots := by rw [show (headSpec ws rm).room.slots = ms from hrs]; exact hp.2.1
  have hPc : Pc a (A.U.calling g mk a) := hblind _ _ _ _ hp.2.2
  obtain ⟨U, Ls, c0, s0⟩ := A
  dsimp only [Pt.U, Pt.locs, Pt.cells, Pt.slots] at h1 h2 h3 h4 h5 X hn hPc ⊢
  obtain ⟨m9, methY, cY, hn9, hmY, hcY, -, hlY, -⟩ := Cond.codeWith_spec h2
  cases Option.some.inj (hn9.symm.trans hn)
  obtain ⟨kY, hkY, -⟩ := className_of_methodNamed hn
  have hinitY : kY.init = .initialized := Cond.initialized_spec (findClass_of_methodNamed hn) hkY h3
  have h : At U g.method c below := by rw [hg]; exact X.here
  have hlocals9 : W9 + (maxL + 11) + (headSpec ws rm).room.locals ≤ R.locals := hlocals
  have happ : (headSpec ws rm).appliesLoose y e.platform (U.calling g mk a) = true :=
    Spec.appliesLoose_calling (g := g) h hdg hn hkY hinitY
      (X.room_calling (g := g) (R' := (headSpec ws rm).room) hsize hmY hcY hframes (by rw [hlY]; omega) h4 h5) h1
  obtain ⟨mid, hmid⟩ := h.above
  have hfr : (U.setTop g).frames = (.java g :: mid) ++ below := by rw [State.frames_setTop' g h.top, hmid]; rfl
  obtain ⟨o, s₂, hsteps, -, hend, hq⟩ := Steps.callFree hM p X.admits X.cas X.clock (acts := []) hfr happ hPc trivial
  have hq' : vx_Q Qc XC mc ms free a (U.calling g mk a) o s₂ := hq
  rw [State.frames_setTop' g h.top] at hend
  obtain ⟨g₀, hg0⟩ := Option.isSome_iff_exists.mp h.top
  obtain ⟨r, hr⟩ := State.topJava?_eq_some.mp hg0
  have hr' : (({ U with heap := s₂.heap, slotsUsed := s₂.slotsUsed } : State).setVm s₂.vm).frames = .java g₀ :: r := hr
  rcases hq' with ⟨hqc, L, hfe, hL⟩ | ⟨q, rfl, E, ce, L, hx, hce, hcv, hcl, hW₂, hsm, hL⟩
  · obtain ⟨⟨v, rfl⟩, hW₂, e2, q2, q3, q4, q5, q6⟩ := id hfe
    have e3 : s₂ = ({ (U.calling g mk a).setFrames s₂.frames with heap := s₂.heap, slotsUsed := s₂.slotsUsed } : State).setVm s₂.vm := by
      have : s₂ = ({ s₂ with vm := (U.calling g mk a).vm } : State).setVm s₂.vm := rfl
      rw [e2] at this
      exact this
    obtain ⟨c₂, i₂, len₂, hc₂, hd₂, hf₂⟩ := hend
    have hW' : U.WarmedH s₂.vm := hW₂
    have hcc : c₂ = c := by
      have h1 : s₂.code? g.method = U.code? g.method := by
        rw [State.code?_eq, State.code?_eq, hW'.alike.method?]
      exact Option.some.inj (hc₂.symm.trans (h1.trans h.code))
    subst hcc
    have hlen : len₂ = len := by rw [hdg] at hd₂; cases hd₂; rfl
    subst hlen
    have hs₂ : s₂ = (({ U with heap := s₂.heap, slotsUsed := s₂.slotsUsed } : State).setVm s₂.vm).setTop { g with pc := g.pc + len₂, stack := v.toList ++ g.stack } := by
      refine e3.trans ?_
      rw [hf₂, State.calling_eq h.top, State.setFrames_setFrames, State.setTop_of_frames _ hr', hr]
      rfl
    have hsame : U.sameButNew ({ U with heap := s₂.heap, slotsUsed := s₂.slotsUsed } : State) L mc ms := by
      refine ⟨?_, q2, q3, q4, q5, q6⟩
      obtain ⟨t, ht, -⟩ := State.frames_cons hr
      show ({ U with heap := s₂.heap, slotsUsed := s₂.slotsUsed } : State) = { U.setFrames U.frames with heap := s₂.heap, slotsUsed := s₂.slotsUsed }
      rw [State.setFrames_self ht]
    subst hg
    refine Or.inl ⟨v, ⟨(({ U with heap := s₂.heap, slotsUsed := s₂.slotsUsed } : State).setVm s₂.vm), Ls ++ L, c0 + mc, s0 + ms⟩,
      ⟨X.admits, X.cas, X.clock, X.frames, X.room, X.hears, X.method, X.code, (X.here.setHeapUsed s₂.heap s₂.slotsUsed).setVm hW'.alike, X.tail, State.WarmedH.trans X.warmed hW', X.limits, X.bytes, X.same.trans (hsame.setVm s.vm)⟩,
      ⟨g, mk, s₂, L, rfl, rfl, hqc, rfl, hL, rfl, rfl⟩, ?_⟩
    show Steps p.tables e below _ ((({ U with heap := s₂.heap, slotsUsed := s₂.slotsUsed } : State).setVm s₂.vm).setTop { g with pc := g.pc + len₂, stack := v.toList ++ g.stack })
    rw [← hs₂]
    exact hsteps
  · obtain ⟨e2, q2, q3, q4, q5, q6⟩ := id hsm
    have e3 : s₂ = ({ (U.calling g mk a).setFrames s₂.frames with heap := s₂.heap, slotsUsed := s₂.slotsUsed } : State).setVm s₂.vm := by
      have : s₂ = ({ s₂ with vm := (U.calling g mk a).vm } : State).setVm s₂.vm := rfl
      rw [e2] at this
      exact this
    have hf₂ : s₂.frames = .throwing q :: .java g :: U.frames.tail := hend
    have hW' : U.WarmedH s₂.vm := hW₂
    have hs₂ : s₂ = ((({ U with heap := s₂.heap, slotsUsed := s₂.slotsUsed } : State).setVm s₂.vm).setTop g).pushFrame (.throwing q) := by
      refine e3.trans ?_
      rw [hf₂, State.calling_eq h.top, State.setFrames_setFrames, State.pushFrame, State.frames_setTop _ hr', State.setTop_of_frames _ hr', State.setFrames_setFrames, hr]
      rfl
    have hsame : U.sameButNew ({ U with heap := s₂.heap, slotsUsed := s₂.slotsUsed } : State) L mc ms := by
      refine ⟨?_, q2, q3, q4, q5, q6⟩
      obtain ⟨t, ht, -⟩ := State.frames_cons hr
      show ({ U with heap := s₂.heap, slotsUsed := s₂.slotsUsed } : State) = { U.setFrames U.frames with heap := s₂.heap, slotsUsed := s₂.slotsUsed }
      rw [State.setFrames_self ht]
    subst hg
    refine Or.inr ⟨q, ⟨(({ U with heap := s₂.heap, slotsUsed := s₂.slotsUsed } : State).setVm s₂.vm), Ls ++ L, c0 + mc, s0 + ms⟩,
      ⟨X.admits, X.cas, X.clock, X.frames, X.room, X.hears, X.method, X.code, (X.here.setHeapUsed s₂.heap s₂.slotsUsed).setVm hW'.alike, X.tail, State.WarmedH.trans X.warmed hW', X.limits, X.bytes, X.same.trans (hsame.setVm s.vm)⟩,
      ⟨g, mk, s₂, L, E, ce, rfl, rfl, hx, hce, hcv, hcl, rfl, hL, rfl, rfl⟩, ?_⟩
    show Steps p.tables e below _ (((({ U with heap := s₂.heap, slotsUsed := s₂.slotsUsed } : State).setVm s₂.vm).setTop g).pushFrame (.throwing q))
    rw [← hs₂]
    exact hsteps
end
variable {p : Program} {l : Launch} {e : Env} {R : Room} {s : State} {m : MethodId} {args : Array Value} {below : List Frame} {meth : Method} {c : Code} {T : State} {H : Heap} {locs : List Loc} {cells slots : Nat}
theorem vx_callVX (X : Stand p l e R s m args below meth c T locs cells slots) (hexec : p.tables.exec = Jvm.exec) {own C : String} {index : Nat} {y : MethodName} {bytes : ByteArray} {maxL : Nat} {ret : Option FieldType} {hh : List (Nat × Nat × Nat × Nat)}
    (hown : s.vm.findClass own = some m.cls) (hlink : (Cond.methodLink own index y).before args s = true) (hinst : (Cond.instanceMethod y).before args s = true) (hsel : (Cond.selects C y y).before args s = true)
    (hcode : (Cond.codeWith y bytes maxL ret hh).before args s = true) (hy : y.cls ≠ "java/lang/invoke/MethodHandle" ∧ y.cls ≠ "java/lang/invoke/VarHandle")
    {W9 : Nat} {Pre : Pt → Array Value → Prop} {Post : Pt → Array Value → Option Value → Pt → Prop} {PostX : Pt → Array Value → Addr → Pt → Prop} (hK : vx_Back l R p e below s args y 3 W9 Pre Post PostX)
    {b : Addr} {cellB : Cell} (hcell : T.heap[b]? = some cellB) (hobj : cellB.vm.isStatics = false) (hcls : s.vm.findClass C = some cellB.cls)
    {g : JFrame} (hg : g.method = m) (hsize : g.locals.size = c.maxLocals) {argsL rest : List Value} (hlen : ∀ sig, parseMethodDescriptor y.desc = some sig → argsL.length = sig.parameters.length)
    (hstack : g.stack = argsL.reverse ++ .ref b :: rest) (hW : 2 * g.monitorRoom + (rest.map fun v => v.category).sum ≤ W9) (hdg : decode c.code g.pc = .ok (.invokevirtual index, 3))
    (hpre : ∀ vm₁, s.WarmedH vm₁ → Pre ⟨T.setVm vm₁, locs, cells, slots⟩ (Value.ref b :: argsL).toArray) :
    (∃ (v : Option Value) (vm₁ : Vm) (B : Pt), s.WarmedH vm₁ ∧ Stand p l e R s m args below meth c B.U B.locs B.cells B.slots ∧ Post ⟨T.setVm vm₁, locs, cells, slots⟩ (Value.ref b :: argsL).toArray v B ∧
      ∀ target, Steps p.tables e below (B.U.setTop { g with pc := g.pc + 3, stack := v.toList ++ rest }) target → Steps p.tables e below (T.setTop g) target) ∨
    (∃ (q : Addr) (vm₁ : Vm) (B : Pt), s.WarmedH vm₁ ∧ Stand p l e R s m args below meth c B.U B.locs B.cells B.slots ∧ PostX ⟨T.setVm vm₁, locs, cells, slots⟩ (Value.ref b :: argsL).toArray q B ∧
      Steps p.tables e below (T.setTop g) ((B.U.setTop { g with stack := rest }).pushFrame (.throwing q))) := by
  obtain ⟨mk, methM, hnamed, hmethM, hstM, habM⟩ := Cond.instanceMethod_spec hinst
  obtain ⟨m8, methM', cM, hn8, hmethM', -, -, -, -, -, -, hsigM⟩ := Cond.codeWith_spec hcode
  cases Option.some.inj (hn8.symm.trans hnamed)
  cases hmethM.symm.trans hmethM'
  obtain ⟨c2, r2, m2, q1, q2, q3, q4, kP, hkP, hkPi⟩ := Cond.selects_spec hsel
  cases hcls.symm.trans q1
  cases (State.methodFound?_of_named hnamed hy).symm.trans q2
  cases hnamed.symm.trans q3
  have hselP : selectMethod e.platform s.vm cellB.cls mk = .method mk := by rw [Launch.admits_selectMethod X.admits]; exact q4
  obtain ⟨vm₁, X₁, hstep₁⟩ := X.invokevirtual hexec hown hlink hnamed hmethM hstM hkP hkPi hy (a := b) (cell := cellB) hcell
    (fun z h => by rw [h] at hobj; cases hobj) hselP hmethM habM hkP hkPi (g := g) hg (argsL := argsL) (rest := rest) (hlen _ hsigM) hstack hdg
  rcases hK m meth c ⟨T.setVm vm₁, locs, cells, slots⟩ { g with stack := rest } (.invokevirtual index) mk (Value.ref b :: argsL).toArray X₁ hg hsize hdg hW (X₁.named hnamed) (hpre vm₁ X₁.warmed) with ⟨v, B, X', hpost, hsteps⟩ | ⟨q, B, X', hpost, hsteps⟩
  · exact Or.inl ⟨v, vm₁, B, X₁.warmed, X', hpost, fun target h => hstep₁ _ fun acts => by rw [doInvoke_state]; exact hsteps.trans h⟩
  · exact Or.inr ⟨q, vm₁, B, X₁.warmed, X', hpost, hstep₁ _ fun acts => by rw [doInvoke_state]; exact hsteps⟩
theorem vx_callSX (X : Stand p l e R s m args below meth c T locs cells slots) (hexec : p.tables.exec = Jvm.exec) {own : String} {index : Nat} {y : MethodName} {bytes : ByteArray} {maxL : Nat} {ret : Option FieldType} {hh : List (Nat × Nat × Nat × Nat)}
    (hown : s.vm.findClass own = some m.cls) (hlink : (Cond.methodLink own index y).before args s = true) (hstat : (Cond.static y).before args s = true) (hinit : (Cond.initialized y.cls).before args s = true)
    (hcode : (Cond.codeWith y bytes maxL ret hh).before args s = true) (hy : y.cls ≠ "java/lang/invoke/MethodHandle" ∧ y.cls ≠ "java/lang/invoke/VarHandle")
    {W9 : Nat} {Pre : Pt → Array Value → Prop} {Post : Pt → Array Value → Option Value → Pt → Prop} {PostX : Pt → Array Value → Addr → Pt → Prop} (hK : vx_Back l R p e below s args y 3 W9 Pre Post PostX)
    {g : JFrame} (hg : g.method = m) (hsize : g.locals.size = c.maxLocals) {argsL rest : List Value} (hlen : ∀ sig, parseMethodDescriptor y.desc = some sig → argsL.length = sig.parameters.length)
    (hstack : g.stack = argsL.reverse ++ rest) (hW : 2 * g.monitorRoom + (rest.map fun v => v.category).sum ≤ W9) (hdg : decode c.code g.pc = .ok (.invokestatic index, 3))
    (hpre : ∀ vm₁, s.WarmedH vm₁ → Pre ⟨T.setVm vm₁, locs, cells, slots⟩ argsL.toArray) :
    (∃ (v : Option Value) (vm₁ : Vm) (B : Pt), s.WarmedH vm₁ ∧ Stand p l e R s m args below meth c B.U B.locs B.cells B.slots ∧ Post ⟨T.setVm vm₁, locs, cells, slots⟩ argsL.toArray v B ∧
      ∀ target, Steps p.tables e below (B.U.setTop { g with pc := g.pc + 3, stack := v.toList ++ rest }) target → Steps p.tables e below (T.setTop g) target) ∨
    (∃ (q : Addr) (vm₁ : Vm) (B : Pt), s.WarmedH vm₁ ∧ Stand p l e R s m args below meth c B.U B.locs B.cells B.slots ∧ PostX ⟨T.setVm vm₁, locs, cells, slots⟩ argsL.toArray q B ∧
      Steps p.tables e below (T.setTop g) ((B.U.setTop { g with stack := rest }).pushFrame (.throwing q))) := by
  obtain ⟨mk, methM, cM, hnamed, hmethM, -, -, -, -, -, -, hsigM⟩ := Cond.codeWith_spec hcode
  have hstatic : methM.isStatic = true := Cond.static_spec hnamed hmethM hstat
  obtain ⟨kP, hkP, -⟩ := className_of_methodNamed hnamed
  have hinitP : kP.init = .initialized := Cond.initialized_spec (findClass_of_methodNamed hnamed) hkP hinit
  obtain ⟨vm₁, X₁, hstep₁⟩ := X.invokestatic hexec hown hlink hnamed hmethM hstatic hkP hinitP hy (g := g) hg (argsL := argsL) (rest := rest) (hlen _ hsigM) hstack hdg
  rcases hK m meth c ⟨T.setVm vm₁, locs, cells, slots⟩ { g with stack := rest } (.invokestatic index) mk argsL.toArray X₁ hg hsize hdg hW (X₁.named hnamed) (hpre vm₁ X₁.warmed) with ⟨v, B, X', hpost, hsteps⟩ | ⟨q, B, X', hpost, hsteps⟩
  · exact Or.inl ⟨v, vm₁, B, X₁.warmed, X', hpost, fun target h => hstep₁ _ fun acts => by rw [doInvoke_state]; exact hsteps.trans h⟩
  · exact Or.inr ⟨q, vm₁, B, X₁.warmed, X', hpost, hstep₁ _ fun acts => by rw [doInvoke_state]; exact hsteps⟩
theorem vx_callVW (X : Stand p l e R s m args below meth c T locs cells slots) (hexec : p.tables.exec = Jvm.exec) {own C : String} {index : Nat} {y : MethodName} {bytes : ByteArray} {maxL : Nat} {ret : Option FieldType} {hh : List (Nat × Nat × Nat × Nat)}
    (hown : s.vm.findClass own = some m.cls) (hlink : (Cond.methodLink own index y).before args s = true) (hinst : (Cond.instanceMethod y).before args s = true) (hsel : (Cond.selects C y y).before args s = true)
    (hcode : (Cond.codeWith y bytes maxL ret hh).before args s = true) (hy : y.cls ≠ "java/lang/invoke/MethodHandle" ∧ y.cls ≠ "java/lang/invoke/VarHandle")
    {W9 : Nat} {Pre : Pt → Array Value → Prop} {Post : Pt → Array Value → Option Value → Pt → Prop} (hK : Back l R p e below s args y 3 W9 Pre Post)
    {b : Addr} {cellB : Cell} (hcell : T.heap[b]? = some cellB) (hobj : cellB.vm.isStatics = false) (hcls : s.vm.findClass C = some cellB.cls)
    {g : JFrame} (hg : g.method = m) (hsize : g.locals.size = c.maxLocals) {argsL rest : List Value} (hlen : ∀ sig, parseMethodDescriptor y.desc = some sig → argsL.length = sig.parameters.length)
    (hstack : g.stack = argsL.reverse ++ .ref b :: rest) (hW : 2 * g.monitorRoom + (rest.map fun v => v.category).sum ≤ W9) (hdg : decode c.code g.pc = .ok (.invokevirtual index, 3))
    (hpre : ∀ vm₁, s.WarmedH vm₁ → Pre ⟨T.setVm vm₁, locs, cells, slots⟩ (Value.ref b :: argsL).toArray) :
    ∃ (v : Option Value) (vm₁ : Vm) (B : Pt), s.WarmedH vm₁ ∧ Stand p l e R s m args below meth c B.U B.locs B.cells B.slots ∧ Post ⟨T.setVm vm₁, locs, cells, slots⟩ (Value.ref b :: argsL).toArray v B ∧
      ∀ target, Steps p.tables e below (B.U.setTop { g with pc := g.pc + 3, stack := v.toList ++ rest }) target → Steps p.tables e below (T.setTop g) target := by
  obtain ⟨mk, methM, hnamed, hmethM, hstM, habM⟩ := Cond.instanceMethod_spec hinst
  obtain ⟨m8, methM', cM, hn8, hmethM', -, -, -, -, -, -, hsigM⟩ := Cond.codeWith_spec hcode
  cases Option.some.inj (hn8.symm.trans hnamed)
  cases hmethM.symm.trans hmethM'
  obtain ⟨c2, r2, m2, q1, q2, q3, q4, kP, hkP, hkPi⟩ := Cond.selects_spec hsel
  cases hcls.symm.trans q1
  cases (State.methodFound?_of_named hnamed hy).symm.trans q2
  cases hnamed.symm.trans q3
  have hselP : selectMethod e.platform s.vm cellB.cls mk = .method mk := by rw [Launch.admits_selectMethod X.admits]; exact q4
  obtain ⟨vm₁, X₁, hstep₁⟩ := X.invokevirtual hexec hown hlink hnamed hmethM hstM hkP hkPi hy (a := b) (cell := cellB) hcell
    (fun z h => by rw [h] at hobj; cases hobj) hselP hmethM habM hkP hkPi (g := g) hg (argsL := argsL) (rest := rest) (hlen _ hsigM) hstack hdg
  obtain ⟨v, B, X', hpost, hsteps⟩ := hK m meth c ⟨T.setVm vm₁, locs, cells, slots⟩ { g with stack := rest } (.invokevirtual index) mk (Value.ref b :: argsL).toArray X₁ hg hsize hdg hW (X₁.named hnamed) (hpre vm₁ X₁.warmed)
  exact ⟨v, vm₁, B, X₁.warmed, X', hpost, fun target h => hstep₁ _ fun acts => by rw [doInvoke_state]; exact hsteps.trans h⟩
abbrev vx_CVW (R : Room) (s : State) (args : Array Value) (own C : String) (index : Nat) (y : MethodName) (bytes : ByteArray) (maxL : Nat) (ret : Option FieldType) (hh : List (Nat × Nat × Nat × Nat)) (ws : List Cond) (rm : Room) (mc ms n : Nat) : Prop :=
  (rm.cells = mc ∧ rm.slots = ms ∧ rm.frames + 1 ≤ R.frames ∧ 8 + (maxL + 11) + rm.locals ≤ R.locals ∧ (∀ w ∈ ws, ∀ (a' : Array Value) (U : State), s.WarmedH U.vm → w.before a' U = true) ∧ Cond.codeWith y bytes maxL ret hh ∈ ws) ∧
  (Cond.codeWith y bytes maxL ret hh).before args s = true ∧ (Cond.initialized y.cls).before args s = true ∧ (y.cls ≠ "java/lang/invoke/MethodHandle" ∧ y.cls ≠ "java/lang/invoke/VarHandle") ∧
  (∀ sig, parseMethodDescriptor y.desc = some sig → n = sig.parameters.length) ∧ (Cond.methodLink own index y).before args s = true ∧ (Cond.instanceMethod y).before args s = true ∧ (Cond.selects C y y).before args s = true
theorem vx_cwVW {own C : String} {index maxL mc ms : Nat} {y : MethodName} {bytes : ByteArray} {ret : Option FieldType} {hh : List (Nat × Nat × Nat × Nat)} {Ts ws ws' : List Cond} {rm : Room} (n : Nat) (ht : ∀ w ∈ Ts, w.before args s = true) (hT : GoodIn Ts (wsV own index C y ws)) (hw : ws = Cond.codeWith y bytes maxL ret hh :: ws') (hrc : rm.cells = mc) (hrs : rm.slots = ms)
    (hd : y.cls = C ∧ y.cls ≠ "java/lang/invoke/MethodHandle" ∧ y.cls ≠ "java/lang/invoke/VarHandle" ∧ (parseMethodDescriptor y.desc).map (fun d => d.parameters.length) = some n) (hR : rm.frames + 1 ≤ R.frames ∧ 8 + (maxL + 11) + rm.locals ≤ R.locals) :
    vx_CVW R s args own C index y bytes maxL ret hh ws rm mc ms n := by
  obtain ⟨hC, hd⟩ := hd
  subst hC
  have ok : ∀ w ∈ wsV own index y.cls y ws, w.before args s = true := fun w h => ht w (hT w h).1
  have hG : GoodIn Ts ws := fun w h => hT w (by unfold wsV; exact List.mem_append_right _ h)
  have hc : Cond.codeWith y bytes maxL ret hh ∈ ws := by rw [hw]; exact List.mem_cons_self
  refine ⟨⟨hrc, hrs, hR.1, hR.2, pay_in ht hG, hc⟩, ht _ (hG _ hc).1, ok _ (by simp [wsV]), ⟨hd.1, hd.2.1⟩, fun sig h => ?_, ok _ (by simp [wsV]), ok _ (by simp [wsV]), ok _ (by simp [wsV])⟩
  have h2 := hd.2.2
  rw [h] at h2
  exact (Option.some.inj h2).symm
theorem vx_runVW {y : MethodName} {bytes cc : ByteArray} {maxL nL mc ms n index : Nat} {ret : Option FieldType} {hh : List (Nat × Nat × Nat × Nat)} {ws : List Cond} {rm : Room} {Pc : Array Value → State → Prop} {Qc : Array Value → State → Outcome → State → Prop} {free : Addr → Prop} {Ts : List Cond} {own C : String} {b : Addr} {As rest : List Value} {g : JFrame}
    (S : CallFix p m c cc nL s args Ts own) (hM : Met l y ws rm Pc Qc mc ms free) (cw : vx_CVW R s args own C index y bytes maxL ret hh ws rm mc ms n) (hp : PreV s H C b Pc As)
    (hg : g.method = m) (hn : As.length = n) (hsize : g.locals.size = nL) (hstack : g.stack = As.reverse ++ .ref b :: rest) (hW : 2 * g.monitorRoom + (rest.map fun v => v.category).sum ≤ 8) (hdg : decode cc g.pc = .ok (.invokevirtual index, 3)) (hf : cells + mc ≤ R.cells ∧ slots + ms ≤ R.slots) :
    va_Run p l e R s m args below meth c H locs cells slots mc ms g rest (Qc (Value.ref b :: As).toArray) free := by
  obtain ⟨⟨hrc, hrs, hfr, hlo, hws, hcw⟩, hcode, hini, hy, hlen, hl, hin, hse⟩ := cw
  have hK : Back l R p e below s args y 3 8 (PreOf R mc ms Pc) (PostOf Qc mc ms free) := va_backW (hh := hh) (bytes := bytes) (maxL := maxL) (ret := ret) hM hp.1 hrc hrs hfr hlo hws hcw (fun a' U hW => word_at hW (Or.inl (by first | rfl | simp [Cond.onTables, Cond.keeps, Cond.steady])) hini)
  obtain ⟨hx, hb, hml, ho, -⟩ := S
  obtain ⟨-, ⟨cellB, hcB, hoB, hclB⟩, hPc⟩ := hp
  intro T hT X
  obtain ⟨v, vm₁, ⟨U', l2, c2, s2⟩, hW₁, X', ⟨g', mk, t, L, e1, e2, hq, h1, hL, h2, h3⟩, st⟩ := vx_callVW X hx (C := C) (hh := hh) (bytes := bytes) (maxL := maxL) (ret := ret) ho hl hin hse hcode hy hK (by rw [hT]; exact hcB) hoB hclB hg (hsize.trans hml.symm) (argsL := As) (rest := rest) (fun sig h => hn.trans (hlen sig h)) hstack hW (by rw [hb]; exact hdg)
    (fun vm₁ hW₁ => ⟨hf.1, hf.2, hPc (T.setVm vm₁) hT hW₁⟩)
  dsimp only [Pt.U, Pt.locs, Pt.cells, Pt.slots] at X' e1 e2 h1 h2 h3 st
  subst h1; subst h2; subst h3
  exact ⟨v, (T.setVm vm₁).calling g' mk (Value.ref b :: As).toArray, t, U', L, hT, X', hL, e1, e2, hq, st⟩
section
variable {y : MethodName} {bytes cc : ByteArray} {maxL nL mc ms n index : Nat} {ret : Option FieldType} {ws : List Cond} {rm : Room} {Pc : Array Value → State → Prop} {Qc : Array Value → State → Outcome → State → Prop} {XC : String → State → State → Prop} {free : Addr → Prop} {Ts : List Cond} {own C : String} {b : Addr} {As rest : List Value} {g : JFrame}
theorem vx_runVX {hh : List (Nat × Nat × Nat × Nat)} (S : CallFix p m c cc nL s args Ts own) (hM : vx_Met l y ws rm Pc Qc XC mc ms free) (cw : vx_CVW R s args own C index y bytes maxL ret hh ws rm mc ms n) (hp : PreV s H C b Pc As)
    (hg : g.method = m) (hn : As.length = n) (hsize : g.locals.size = nL) (hstack : g.stack = As.reverse ++ .ref b :: rest) (hW : 2 * g.monitorRoom + (rest.map fun v => v.category).sum ≤ 8) (hdg : decode cc g.pc = .ok (.invokevirtual index, 3)) (hf : cells + mc ≤ R.cells ∧ slots + ms ≤ R.slots) :
    vx_Run p l e R s m args below meth c H locs cells slots mc ms g rest (Qc (Value.ref b :: As).toArray) XC free := by
  obtain ⟨⟨hrc, hrs, hfr, hlo, hws, hcw⟩, hcode, hini, hy, hlen, hl, hin, hse⟩ := cw
  have hK : vx_Back l R p e below s args y 3 8 (PreOf R mc ms Pc) (PostOf Qc mc ms free) (vx_Post XC mc ms free) := vx_backW (hh := hh) (bytes := bytes) (maxL := maxL) (ret := ret) hM hp.1 hrc hrs hfr hlo hws hcw (fun a' U hW => word_at hW (Or.inl (by first | rfl | simp [Cond.onTables, Cond.keeps, Cond.steady])) hini)
  obtain ⟨hx, hb, hml, ho, -⟩ := S
  obtain ⟨-, ⟨cellB, hcB, hoB, hclB⟩, hPc⟩ := hp
  intro T hT X
  rcases vx_callVX X hx (C := C) (hh := hh) (bytes := bytes) (maxL := maxL) (ret := ret) ho hl hin hse hcode hy hK (by rw [hT]; exact hcB) hoB hclB hg (hsize.trans hml.symm) (argsL := As) (rest := rest) (fun sig h => hn.trans (hlen sig h)) hstack hW (by rw [hb]; exact hdg)
    (fun vm₁ hW₁ => ⟨hf.1, hf.2, hPc (T.setVm vm₁) hT hW₁⟩) with ⟨v, vm₁, ⟨U', l2, c2, s2⟩, hW₁, X', ⟨g', mk, t, L, e1, e2, hq, h1, hL, h2, h3⟩, st⟩ | ⟨q, vm₁, ⟨U', l2, c2, s2⟩, hW₁, X', ⟨g', mk, t, L, E, ce, e1, e2, hq, hce, hcv, hcl, h1, hL, h2, h3⟩, st⟩
  · dsimp only [Pt.U, Pt.locs, Pt.cells, Pt.slots] at X' e1 e2 h1 h2 h3 st
    subst h1; subst h2; subst h3
    exact Or.inl ⟨v, (T.setVm vm₁).calling g' mk (Value.ref b :: As).toArray, t, U', L, hT, X', hL, e1, e2, hq, st⟩
  · dsimp only [Pt.U, Pt.locs, Pt.cells, Pt.slots] at X' e1 e2 h1 h2 h3 st hcl
    subst h1; subst h2; subst h3
    exact Or.inr ⟨q, (T.setVm vm₁).calling g' mk (Value.ref b :: As).toArray, t, U', L, E, ce, hT, X', hL, e1, e2, hq, hce, hcv, vx_cls hW₁ hcl, st⟩
theorem vx_runSX {hh : List (Nat × Nat × Nat × Nat)} (S : CallFix p m c cc nL s args Ts own) (hM : vx_Met l y ws rm Pc Qc XC mc ms free) (cw : vx_CSW R s args own index y bytes maxL ret hh ws rm mc ms n) (hp : PreS s H Pc As)
    (hg : g.method = m) (hn : As.length = n) (hsize : g.locals.size = nL) (hstack : g.stack = As.reverse ++ rest) (hW : 2 * g.monitorRoom + (rest.map fun v => v.category).sum ≤ 8) (hdg : decode cc g.pc = .ok (.invokestatic index, 3)) (hf : cells + mc ≤ R.cells ∧ slots + ms ≤ R.slots) :
    vx_Run p l e R s m args below meth c H locs cells slots mc ms g rest (Qc As.toArray) XC free := by
  obtain ⟨⟨hrc, hrs, hfr, hlo, hws, hcw⟩, hcode, hini, hy, hlen, hl, hstt⟩ := cw
  have hK : vx_Back l R p e below s args y 3 8 (PreOf R mc ms Pc) (PostOf Qc mc ms free) (vx_Post XC mc ms free) := vx_backW (hh := hh) (bytes := bytes) (maxL := maxL) (ret := ret) hM hp.1 hrc hrs hfr hlo hws hcw (fun a' U hW => word_at hW (Or.inl (by first | rfl | simp [Cond.onTables, Cond.keeps, Cond.steady])) hini)
  obtain ⟨hx, hb, hml, ho, -⟩ := S
  intro T hT X
  rcases vx_callSX X hx (hh := hh) (bytes := bytes) (maxL := maxL) (ret := ret) ho hl hstt hini hcode hy hK hg (hsize.trans hml.symm) (argsL := As) (rest := rest) (fun sig h => hn.trans (hlen sig h)) hstack hW (by rw [hb]; exact hdg)
    (fun vm₁ hW₁ => ⟨hf.1, hf.2, hp.2 (T.setVm vm₁) hT hW₁⟩) with ⟨v, vm₁, ⟨U', l2, c2, s2⟩, hW₁, X', ⟨g', mk, t, L, e1, e2, hq, h1, hL, h2, h3⟩, st⟩ | ⟨q, vm₁, ⟨U', l2, c2, s2⟩, hW₁, X', ⟨g', mk, t, L, E, ce, e1, e2, hq, hce, hcv, hcl, h1, hL, h2, h3⟩, st⟩
  · dsimp only [Pt.U, Pt.locs, Pt.cells, Pt.slots] at X' e1 e2 h1 h2 h3 st
    subst h1; subst h2; subst h3
    exact Or.inl ⟨v, (T.setVm vm₁).calling g' mk As.toArray, t, U', L, hT, X', hL, e1, e2, hq, st⟩
  · dsimp only [Pt.U, Pt.locs, Pt.cells, Pt.slots] at X' e1 e2 h1 h2 h3 st hcl
    subst h1; subst h2; subst h3
    exact Or.inr ⟨q, (T.setVm vm₁).calling g' mk As.toArray, t, U', L, E, ce, hT, X', hL, e1, e2, hq, hce, hcv, vx_cls hW₁ hcl, st⟩
end
end VXH
theorem vx_ofWH {l : Launch} {y : MethodName} {ws ws' : List Cond} {rm : Room} {Pc : Array Value → State → Prop} {Qc : Array Value → State → Outcome → State → Prop} {XC : String → State → State → Prop} {mc ms : Nat} {free : Addr → Prop} {cc : ByteArray} {maxL : Nat} {ret : Option FieldType} {hh : List (Nat × Nat × Nat × Nat)}
    (hy : plainName y.cls = true) (hw : ws = Cond.codeWith y cc maxL ret hh :: ws')
    (body : ∀ p e s m args below meth c s₁, BodyLoose p l y (headSpec ws rm) cc maxL ret e s m args below meth c s₁ → c.maxLocals = maxL → Pc args s →
      W p l e (headSpec ws rm).room s m args below meth c s.heap [] 0 0 (vx_MQ below Qc XC args s mc ms free) (entryFrame m args maxL)) : vx_Met l y ws rm Pc Qc XC mc ms free := by
  refine MetFree.of_bodyS (code := cc) (maxLocals := maxL) (ret := ret) hy ?_ ?_
  · intro args s m h hn
    obtain ⟨m9, meth, c, hn9, h1, h2, h3, h4, -, h5, h6, -⟩ := Cond.codeWith_spec (atoms_spec (ws := ws) h _ (by rw [hw]; exact List.mem_cons_self))
    cases hn.symm.trans hn9
    exact ⟨meth, c, h1, h2, h3, h4, h5, h6⟩
  · intro p e s m args below meth c s₁ B hml hP _
    have hh0 : s₁.heap = s.heap := by rw [B.state]; rfl
    obtain ⟨t, a1, o, b1, b2, b3⟩ := body p e s m args below meth c s₁ B hml hP s₁ hh0 (Stand.of_body B)
    exact ⟨t, o, a1, b1, b2, b3⟩
/-! ===== END ===== -/
/-! ===== BEGIN a constructor that throws (launches without stack traces) ===== -/
section VXIA
variable {p : Program} {l : Launch} {e : Env} {R : Room} {s : State} {m : MethodId} {args : Array Value} {below : List Frame} {meth : Method} {c : Code} {T : State} {locs : List Loc} {cells slots : Nat}
theorem vx_callI (X : Stand p l e R s m args below meth c T locs cells slots) (hexec : p.tables.exec = Jvm.exec) {own : String} {index : Nat} {y : MethodName} {bytes : ByteArray} {maxL : Nat}
    (hown : s.vm.findClass own = some m.cls) (hy1 : y.name = "<init>") (hlink : (Cond.methodLink own index y).before args s = true) (hinst : (Cond.instanceMethod y).before args s = true)
    (hcode : (Cond.code y bytes maxL none).before args s = true) (hy : y.cls ≠ "java/lang/invoke/MethodHandle" ∧ y.cls ≠ "java/lang/invoke/VarHandle")
    {W9 : Nat} {Pre : Pt → Array Value → Prop} {Post : Pt → Array Value → Option Value → Pt → Prop} {PostX : Pt → Array Value → Addr → Pt → Prop} (hK : vx_Back l R p e below s args y 3 W9 Pre Post PostX)
    {g : JFrame} (hg : g.method = m) (hsize : g.locals.size = c.maxLocals) {a : Addr} {argsL rest : List Value} (hlen : ∀ sig, parseMethodDescriptor y.desc = some sig → argsL.length = sig.parameters.length)
    (hstack : g.stack = argsL.reverse ++ .ref a :: rest) (hW : 2 * g.monitorRoom + (rest.map fun v => v.category).sum ≤ W9) (hdg : decode c.code g.pc = .ok (.invokespecial index, 3))
    (hpre : ∀ vm₁, s.WarmedH vm₁ → Pre ⟨T.setVm vm₁, locs, cells, slots⟩ (Value.ref a :: argsL).toArray) :
    (∃ (v : Option Value) (vm₁ : Vm) (B : Pt), s.WarmedH vm₁ ∧ Stand p l e R s m args below meth c B.U B.locs B.cells B.slots ∧ Post ⟨T.setVm vm₁, locs, cells, slots⟩ (Value.ref a :: argsL).toArray v B ∧
      ∀ target, Steps p.tables e below (B.U.setTop { g with pc := g.pc + 3, stack := v.toList ++ rest }) target → Steps p.tables e below (T.setTop g) target) ∨
    (∃ (q : Addr) (vm₁ : Vm) (B : Pt), s.WarmedH vm₁ ∧ Stand p l e R s m args below meth c B.U B.locs B.cells B.slots ∧ PostX ⟨T.setVm vm₁, locs, cells, slots⟩ (Value.ref a :: argsL).toArray q B ∧
      Steps p.tables e below (T.setTop g) ((B.U.setTop { g with stack := rest }).pushFrame (.throwing q))) := by
  subst hg
  have hpl : e.platform.magicAccessors = ({} : Platform).magicAccessors := by rw [X.admits.platform]
  obtain ⟨mk, methM, cM, kP, vm₁, hnamed, hmethM, hcodeM, -, hlocalsM, -, hkP, -, hW₁, hstep₁⟩ := Steps.initColdArgs (e := e) X.here hexec X.warmed hpl hown hy1 hy hlink hinst hcode (f := g) rfl hlen hstack hdg
  have X₁ := X.noted hW₁
  rcases hK g.method meth c ⟨T.setVm vm₁, locs, cells, slots⟩ { g with stack := rest } (.invokespecial index) mk (Value.ref a :: argsL).toArray X₁ rfl hsize hdg hW (X₁.named hnamed) (hpre vm₁ X₁.warmed) with ⟨v, B, X', hpost, hsteps⟩ | ⟨q, B, X', hpost, hsteps⟩
  · exact Or.inl ⟨v, vm₁, B, X₁.warmed, X', hpost, fun target h => hstep₁ _ fun acts => by rw [doInvoke_state]; exact hsteps.trans h⟩
  · exact Or.inr ⟨q, vm₁, B, X₁.warmed, X', hpost, hstep₁ _ fun acts => by rw [doInvoke_state]; exact hsteps⟩
end VXIA
section VXIB
variable {p : Program} {l : Launch} {e : Env} {R : Room} {s : State} {m : MethodId} {args : Array Value} {below : List Frame} {meth : Method} {c : Code} {H : Heap} {locs : List Loc} {cells slots : Nat}
variable {y : MethodName} {bytes cc : ByteArray} {maxL nL mc ms n index : Nat} {ret : Option FieldType} {ws : List Cond} {rm : Room} {Pc : Array Value → State → Prop} {Qc : Array Value → State → Outcome → State → Prop} {XC : String → State → State → Prop} {free : Addr → Prop} {Ts : List Cond} {own C : String} {b : Addr} {As rest : List Value} {g : JFrame}
theorem vx_runI (S : CallFix p m c cc nL s args Ts own) (hM : vx_Met l y ws rm Pc Qc XC mc ms free) (cw : CallB R s args own index y bytes maxL none ws rm mc ms n ∧ y.name = "<init>" ∧ (Cond.instanceMethod y).before args s = true) (hp : PreS s H Pc (.ref b :: As))
    (hg : g.method = m) (hn : As.length = n) (hsize : g.locals.size = nL) (hstack : g.stack = As.reverse ++ .ref b :: rest) (hW : 2 * g.monitorRoom + (rest.map fun v => v.category).sum ≤ 8) (hdg : decode cc g.pc = .ok (.invokespecial index, 3)) (hf : cells + mc ≤ R.cells ∧ slots + ms ≤ R.slots) :
    vx_Run p l e R s m args below meth c H locs cells slots mc ms g rest (Qc (Value.ref b :: As).toArray) XC free := by
  have hK : vx_Back l R p e below s args y 3 8 (PreOf R mc ms Pc) (PostOf Qc mc ms free) (vx_Post XC mc ms free) := vx_callBack cw.1 hM hp.1
  obtain ⟨⟨-, -, -, -, -, -, hcode, -, hy, hlen, hl⟩, hy1, hin⟩ := cw
  obtain ⟨hx, hb, hml, ho, -⟩ := S
  have hPc := hp.2
  intro T hT X
  rcases vx_callI X hx (bytes := bytes) (maxL := maxL) ho hy1 hl hin hcode hy hK hg (hsize.trans hml.symm) (a := b) (argsL := As) (rest := rest) (fun sig h => hn.trans (hlen sig h)) hstack hW (by rw [hb]; exact hdg)
    (fun vm₁ hW₁ => ⟨hf.1, hf.2, hPc (T.setVm vm₁) hT hW₁⟩) with ⟨v, vm₁, ⟨U', l2, c2, s2⟩, hW₁, X', ⟨g', mk, t, L, e1, e2, hq, h1, hL, h2, h3⟩, st⟩ | ⟨q, vm₁, ⟨U', l2, c2, s2⟩, hW₁, X', ⟨g', mk, t, L, E, ce, e1, e2, hq, hce, hcv, hcl, h1, hL, h2, h3⟩, st⟩
  · dsimp only [Pt.U, Pt.locs, Pt.cells, Pt.slots] at X' e1 e2 h1 h2 h3 st
    subst h1; subst h2; subst h3
    exact Or.inl ⟨v, (T.setVm vm₁).calling g' mk (Value.ref b :: As).toArray, t, U', L, hT, X', hL, e1, e2, hq, st⟩
  · dsimp only [Pt.U, Pt.locs, Pt.cells, Pt.slots] at X' e1 e2 h1 h2 h3 st hcl
    subst h1; subst h2; subst h3
    exact Or.inr ⟨q, (T.setVm vm₁).calling g' mk (Value.ref b :: As).toArray, t, U', L, E, ce, hT, X', hL, e1, e2, hq, hce, hcv, vx_cls hW₁ hcl, st⟩
end VXIB
/-! ===== END ===== -/
/-! ===== BEGIN a private constructor of a nest mate that throws ===== -/
section VXIC
variable {p : Program} {l : Launch} {e : Env} {R : Room} {s : State} {m : MethodId} {args : Array Value} {below : List Frame} {meth : Method} {c : Code} {T : State} {locs : List Loc} {cells slots : Nat}
theorem vx_callIN (X : Stand p l e R s m args below meth c T locs cells slots) (hexec : p.tables.exec = Jvm.exec) {own : String} {index : Nat} {host : String} {y : MethodName} {bytes : ByteArray} {maxL : Nat}
    (hown : s.vm.findClass own = some m.cls) (hy1 : y.name = "<init>") (hlink : (Cond.methodLinkNest own index y host).before args s = true) (hinst : (Cond.instanceMethod y).before args s = true)
    (hcode : (Cond.code y bytes maxL none).before args s = true) (hy : y.cls ≠ "java/lang/invoke/MethodHandle" ∧ y.cls ≠ "java/lang/invoke/VarHandle")
    {W9 : Nat} {Pre : Pt → Array Value → Prop} {Post : Pt → Array Value → Option Value → Pt → Prop} {PostX : Pt → Array Value → Addr → Pt → Prop} (hK : vx_Back l R p e below s args y 3 W9 Pre Post PostX)
    {g : JFrame} (hg : g.method = m) (hsize : g.locals.size = c.maxLocals) {a : Addr} {argsL rest : List Value} (hlen : ∀ sig, parseMethodDescriptor y.desc = some sig → argsL.length = sig.parameters.length)
    (hstack : g.stack = argsL.reverse ++ .ref a :: rest) (hW : 2 * g.monitorRoom + (rest.map fun v => v.category).sum ≤ W9) (hdg : decode c.code g.pc = .ok (.invokespecial index, 3))
    (hpre : ∀ vm₁, s.WarmedH vm₁ → Pre ⟨T.setVm vm₁, locs, cells, slots⟩ (Value.ref a :: argsL).toArray) :
    (∃ (v : Option Value) (vm₁ : Vm) (B : Pt), s.WarmedH vm₁ ∧ Stand p l e R s m args below meth c B.U B.locs B.cells B.slots ∧ Post ⟨T.setVm vm₁, locs, cells, slots⟩ (Value.ref a :: argsL).toArray v B ∧
      ∀ target, Steps p.tables e below (B.U.setTop { g with pc := g.pc + 3, stack := v.toList ++ rest }) target → Steps p.tables e below (T.setTop g) target) ∨
    (∃ (q : Addr) (vm₁ : Vm) (B : Pt), s.WarmedH vm₁ ∧ Stand p l e R s m args below meth c B.U B.locs B.cells B.slots ∧ PostX ⟨T.setVm vm₁, locs, cells, slots⟩ (Value.ref a :: argsL).toArray q B ∧
      Steps p.tables e below (T.setTop g) ((B.U.setTop { g with stack := rest }).pushFrame (.throwing q))) := by
  subst hg
  have hpl : e.platform.magicAccessors = ({} : Platform).magicAccessors := by rw [X.admits.platform]
  obtain ⟨mk, methM, cM, kP, vm₁, hnamed, hmethM, hcodeM, -, hlocalsM, -, hkP, -, hW₁, hstep₁⟩ := Steps.initColdArgsNest (e := e) X.here hexec X.warmed hpl hown hy1 hy hlink hinst hcode (f := g) rfl hlen hstack hdg
  have X₁ := X.noted hW₁
  rcases hK g.method meth c ⟨T.setVm vm₁, locs, cells, slots⟩ { g with stack := rest } (.invokespecial index) mk (Value.ref a :: argsL).toArray X₁ rfl hsize hdg hW (X₁.named hnamed) (hpre vm₁ X₁.warmed) with ⟨v, B, X', hpost, hsteps⟩ | ⟨q, B, X', hpost, hsteps⟩
  · exact Or.inl ⟨v, vm₁, B, X₁.warmed, X', hpost, fun target h => hstep₁ _ fun acts => by rw [doInvoke_state]; exact hsteps.trans h⟩
  · exact Or.inr ⟨q, vm₁, B, X₁.warmed, X', hpost, hstep₁ _ fun acts => by rw [doInvoke_state]; exact hsteps⟩
end VXIC
section VXID
variable {p : Program} {l : Launch} {e : Env} {R : Room} {s : State} {m : MethodId} {args : Array Value} {below : List Frame} {meth : Method} {c : Code} {H : Heap} {locs : List Loc} {cells slots : Nat}
theorem vx_runIN {y : MethodName} {bytes cc : ByteArray} {maxL nL mc ms n index : Nat} {ws : List Cond} {rm : Room} {Pc : Array Value → State → Prop} {Qc : Array Value → State → Outcome → State → Prop} {XC : String → State → State → Prop} {free : Addr → Prop} {Ts : List Cond} {own host : String} {b : Addr} {As rest : List Value} {g : JFrame}
    (S : CallFix p m c cc nL s args Ts own) (hM : vx_Met l y ws rm Pc Qc XC mc ms free) (cw : va_CN R s args own index y host bytes maxL none ws rm mc ms n ∧ y.name = "<init>" ∧ (Cond.instanceMethod y).before args s = true) (hp : PreS s H Pc (.ref b :: As))
    (hg : g.method = m) (hn : As.length = n) (hsize : g.locals.size = nL) (hstack : g.stack = As.reverse ++ .ref b :: rest) (hW : 2 * g.monitorRoom + (rest.map fun v => v.category).sum ≤ 8) (hdg : decode cc g.pc = .ok (.invokespecial index, 3)) (hf : cells + mc ≤ R.cells ∧ slots + ms ≤ R.slots) :
    vx_Run p l e R s m args below meth c H locs cells slots mc ms g rest (Qc (Value.ref b :: As).toArray) XC free := by
  obtain ⟨⟨⟨hrc, hrs, hfr, hlo, hws, hcw⟩, hcode, hini, hy, hlen, hl⟩, hx1, hx2⟩ := cw
  have hK : vx_Back l R p e below s args y 3 8 (PreOf R mc ms Pc) (PostOf Qc mc ms free) (vx_Post XC mc ms free) := vx_back (bytes := bytes) (maxL := maxL) (ret := none) hM hp.1 hrc hrs hfr hlo hws hcw (fun a' U hW => word_at hW (Or.inl (by first | rfl | simp [Cond.onTables, Cond.keeps, Cond.steady])) hini)
  obtain ⟨hx, hb, hml, ho, -⟩ := S
  have hPc := hp.2
  intro T hT X
  rcases vx_callIN X hx (bytes := bytes) (maxL := maxL) ho hx1 hl hx2 hcode hy hK hg (hsize.trans hml.symm) (a := b) (argsL := As) (rest := rest) (fun sig h => hn.trans (hlen sig h)) hstack hW (by rw [hb]; exact hdg)
    (fun vm₁ hW₁ => ⟨hf.1, hf.2, hPc (T.setVm vm₁) hT hW₁⟩) with ⟨v, vm₁, ⟨U', l2, c2, s2⟩, hW₁, X', ⟨g', mk, t, L, e1, e2, hq, h1, hL, h2, h3⟩, st⟩ | ⟨q, vm₁, ⟨U', l2, c2, s2⟩, hW₁, X', ⟨g', mk, t, L, E, ce, e1, e2, hq, hce, hcv, hcl, h1, hL, h2, h3⟩, st⟩
  · dsimp only [Pt.U, Pt.locs, Pt.cells, Pt.slots] at X' e1 e2 h1 h2 h3 st
    subst h1; subst h2; subst h3
    exact Or.inl ⟨v, (T.setVm vm₁).calling g' mk (Value.ref b :: As).toArray, t, U', L, hT, X', hL, e1, e2, hq, st⟩
  · dsimp only [Pt.U, Pt.locs, Pt.cells, Pt.slots] at X' e1 e2 h1 h2 h3 st hcl
    subst h1; subst h2; subst h3
    exact Or.inr ⟨q, (T.setVm vm₁).calling g' mk (Value.ref b :: As).toArray, t, U', L, E, ce, hT, X', hL, e1, e2, hq, hce, hcv, vx_cls hW₁ hcl, st⟩
end VXID
/-! ===== END ===== -/
/-! ===== BEGIN a private method of a nest mate that may throw (follows va_callVN, va_callSN, va_runVN, va_runSN) ===== -/
section
variable {p : Program} {l : Launch} {e : Env} {R : Room} {s : State} {m : MethodId} {args : Array Value} {below : List Frame} {meth : Method} {c : Code} {H : Heap} {locs : List Loc} {cells slots : Nat}
variable {T : State}
theorem vx_callVN (X : Stand p l e R s m args below meth c T locs cells slots) (hexec : p.tables.exec = Jvm.exec) {own C : String} {index : Nat} {host : String} {y : MethodName} {bytes : ByteArray} {maxL : Nat} {ret : Option FieldType}
    (hown : s.vm.findClass own = some m.cls) (hlink : (Cond.methodLinkNest own index y host).before args s = true) (hinst : (Cond.instanceMethod y).before args s = true) (hsel : (Cond.selects C y y).before args s = true)
    (hcode : (Cond.code y bytes maxL ret).before args s = true) (hy : y.cls ≠ "java/lang/invoke/MethodHandle" ∧ y.cls ≠ "java/lang/invoke/VarHandle")
    {W : Nat} {Pre : Pt → Array Value → Prop} {Post : Pt → Array Value → Option Value → Pt → Prop} {PostX : Pt → Array Value → Addr → Pt → Prop} (hK : vx_Back l R p e below s args y 3 W Pre Post PostX)
    {b : Addr} {cellB : Cell} (hcell : T.heap[b]? = some cellB) (hobj : cellB.vm.isStatics = false) (hcls : s.vm.findClass C = some cellB.cls)
    {g : JFrame} (hg : g.method = m) (hsize : g.locals.size = c.maxLocals) {argsL rest : List Value} (hlen : ∀ sig, parseMethodDescriptor y.desc = some sig → argsL.length = sig.parameters.length)
    (hstack : g.stack = argsL.reverse ++ .ref b :: rest) (hW : 2 * g.monitorRoom + (rest.map fun v => v.category).sum ≤ W) (hdg : decode c.code g.pc = .ok (.invokevirtual index, 3))
    (hpre : ∀ vm₁, s.WarmedH vm₁ → Pre ⟨T.setVm vm₁, locs, cells, slots⟩ (Value.ref b :: argsL).toArray) :
    (∃ (v : Option Value) (vm₁ : Vm) (B : Pt), s.WarmedH vm₁ ∧ Stand p l e R s m args below meth c B.U B.locs B.cells B.slots ∧ Post ⟨T.setVm vm₁, locs, cells, slots⟩ (Value.ref b :: argsL).toArray v B ∧
      ∀ target, Steps p.tables e below (B.U.setTop { g with pc := g.pc + 3, stack := v.toList ++ rest }) target → Steps p.tables e below (T.setTop g) target) ∨
    (∃ (q : Addr) (vm₁ : Vm) (B : Pt), s.WarmedH vm₁ ∧ Stand p l e R s m args below meth c B.U B.locs B.cells B.slots ∧ PostX ⟨T.setVm vm₁, locs, cells, slots⟩ (Value.ref b :: argsL).toArray q B ∧
      Steps p.tables e below (T.setTop g) ((B.U.setTop { g with stack := rest }).pushFrame (.throwing q))) := by
  obtain ⟨mk, methM, hnamed, hmethM, hstM, habM⟩ := Cond.instanceMethod_spec hinst
  obtain ⟨methM', cM, hmethM', -, -, -, -, -, -, hsigM⟩ := Cond.code_spec hnamed hcode
  cases hmethM.symm.trans hmethM'
  obtain ⟨c2, r2, m2, q1, q2, q3, q4, kP, hkP, hkPi⟩ := Cond.selects_spec hsel
  cases hcls.symm.trans q1
  cases (State.methodFound?_of_named hnamed hy).symm.trans q2
  cases hnamed.symm.trans q3
  have hselP : selectMethod e.platform s.vm cellB.cls mk = .method mk := by rw [Launch.admits_selectMethod X.admits]; exact q4
  obtain ⟨vm₁, X₁, hstep₁⟩ := X.invokevirtualNest hexec hown hlink hnamed hmethM hstM hkP hkPi hy (a := b) (cell := cellB) hcell
    (fun z h => by rw [h] at hobj; cases hobj) hselP hmethM habM hkP hkPi (g := g) hg (argsL := argsL) (rest := rest) (hlen _ hsigM) hstack hdg
  rcases hK m meth c ⟨T.setVm vm₁, locs, cells, slots⟩ { g with stack := rest } (.invokevirtual index) mk (Value.ref b :: argsL).toArray X₁ hg hsize hdg hW (X₁.named hnamed) (hpre vm₁ X₁.warmed) with ⟨v, B, X', hpost, hsteps⟩ | ⟨q, B, X', hpost, hsteps⟩
  · exact Or.inl ⟨v, vm₁, B, X₁.warmed, X', hpost, fun target h => hstep₁ _ fun acts => by rw [doInvoke_state]; exact hsteps.trans h⟩
  · exact Or.inr ⟨q, vm₁, B, X₁.warmed, X', hpost, hstep₁ _ fun acts => by rw [doInvoke_state]; exact hsteps⟩
theorem vx_callSN (X : Stand p l e R s m args below meth c T locs cells slots) (hexec : p.tables.exec = Jvm.exec) {own : String} {index : Nat} {host : String} {y : MethodName} {bytes : ByteArray} {maxL : Nat} {ret : Option FieldType}
    (hown : s.vm.findClass own = some m.cls) (hlink : (Cond.methodLinkNest own index y host).before args s = true) (hstat : (Cond.static y).before args s = true) (hinit : (Cond.initialized y.cls).before args s = true)
    (hcode : (Cond.code y bytes maxL ret).before args s = true) (hy : y.cls ≠ "java/lang/invoke/MethodHandle" ∧ y.cls ≠ "java/lang/invoke/VarHandle")
    {W : Nat} {Pre : Pt → Array Value → Prop} {Post : Pt → Array Value → Option Value → Pt → Prop} {PostX : Pt → Array Value → Addr → Pt → Prop} (hK : vx_Back l R p e below s args y 3 W Pre Post PostX)
    {g : JFrame} (hg : g.method = m) (hsize : g.locals.size = c.maxLocals) {argsL rest : List Value} (hlen : ∀ sig, parseMethodDescriptor y.desc = some sig → argsL.length = sig.parameters.length)
    (hstack : g.stack = argsL.reverse ++ rest) (hW : 2 * g.monitorRoom + (rest.map fun v => v.category).sum ≤ W) (hdg : decode c.code g.pc = .ok (.invokestatic index, 3))
    (hpre : ∀ vm₁, s.WarmedH vm₁ → Pre ⟨T.setVm vm₁, locs, cells, slots⟩ argsL.toArray) :
    (∃ (v : Option Value) (vm₁ : Vm) (B : Pt), s.WarmedH vm₁ ∧ Stand p l e R s m args below meth c B.U B.locs B.cells B.slots ∧ Post ⟨T.setVm vm₁, locs, cells, slots⟩ argsL.toArray v B ∧
      ∀ target, Steps p.tables e below (B.U.setTop { g with pc := g.pc + 3, stack := v.toList ++ rest }) target → Steps p.tables e below (T.setTop g) target) ∨
    (∃ (q : Addr) (vm₁ : Vm) (B : Pt), s.WarmedH vm₁ ∧ Stand p l e R s m args below meth c B.U B.locs B.cells B.slots ∧ PostX ⟨T.setVm vm₁, locs, cells, slots⟩ argsL.toArray q B ∧
      Steps p.tables e below (T.setTop g) ((B.U.setTop { g with stack := rest }).pushFrame (.throwing q))) := by
  obtain ⟨mk, hnamed⟩ := Cond.code_named hcode
  obtain ⟨methM, cM, hmethM, -, -, -, -, -, -, hsigM⟩ := Cond.code_spec hnamed hcode
  have hstatic : methM.isStatic = true := Cond.static_spec hnamed hmethM hstat
  obtain ⟨kP, hkP, -⟩ := className_of_methodNamed hnamed
  have hinitP : kP.init = .initialized := Cond.initialized_spec (findClass_of_methodNamed hnamed) hkP hinit
  obtain ⟨vm₁, X₁, hstep₁⟩ := X.invokestaticNest hexec hown hlink hnamed hmethM hstatic hkP hinitP hy (g := g) hg (argsL := argsL) (rest := rest) (hlen _ hsigM) hstack hdg
  rcases hK m meth c ⟨T.setVm vm₁, locs, cells, slots⟩ { g with stack := rest } (.invokestatic index) mk argsL.toArray X₁ hg hsize hdg hW (X₁.named hnamed) (hpre vm₁ X₁.warmed) with ⟨v, B, X', hpost, hsteps⟩ | ⟨q, B, X', hpost, hsteps⟩
  · exact Or.inl ⟨v, vm₁, B, X₁.warmed, X', hpost, fun target h => hstep₁ _ fun acts => by rw [doInvoke_state]; exact hsteps.trans h⟩
  · exact Or.inr ⟨q, vm₁, B, X₁.warmed, X', hpost, hstep₁ _ fun acts => by rw [doInvoke_state]; exact hsteps⟩
theorem vx_runVN {y : MethodName} {bytes cc : ByteArray} {maxL nL mc ms n index : Nat} {ret : Option FieldType} {ws : List Cond} {rm : Room} {Pc : Array Value → State → Prop} {Qc : Array Value → State → Outcome → State → Prop} {XC : String → State → State → Prop} {free : Addr → Prop} {Ts : List Cond} {own C host : String} {b : Addr} {As rest : List Value} {g : JFrame}
    (S : CallFix p m c cc nL s args Ts own) (hM : vx_Met l y ws rm Pc Qc XC mc ms free) (cw : va_CN R s args own index y host bytes maxL ret ws rm mc ms n ∧ (Cond.instanceMethod y).before args s = true ∧ (Cond.selects C y y).before args s = true) (hp : PreV s H C b Pc As)
    (hg : g.method = m) (hn : As.length = n) (hsize : g.locals.size = nL) (hstack : g.stack = As.reverse ++ .ref b :: rest) (hW : 2 * g.monitorRoom + (rest.map fun v => v.category).sum ≤ 8) (hdg : decode cc g.pc = .ok (.invokevirtual index, 3)) (hf : cells + mc ≤ R.cells ∧ slots + ms ≤ R.slots) :
    vx_Run p l e R s m args below meth c H locs cells slots mc ms g rest (Qc (Value.ref b :: As).toArray) XC free := by
  obtain ⟨⟨⟨hrc, hrs, hfr, hlo, hws, hcw⟩, hcode, hini, hy, hlen, hl⟩, hx1, hx2⟩ := cw
  have hK : vx_Back l R p e below s args y 3 8 (PreOf R mc ms Pc) (PostOf Qc mc ms free) (vx_Post XC mc ms free) := vx_back (bytes := bytes) (maxL := maxL) (ret := ret) hM hp.1 hrc hrs hfr hlo hws hcw (fun a' U hW => word_at hW (Or.inl (by first | rfl | simp [Cond.onTables, Cond.keeps, Cond.steady])) hini)
  obtain ⟨hx, hb, hml, ho, -⟩ := S
  obtain ⟨-, ⟨cellB, hcB, hoB, hclB⟩, hPc⟩ := hp
  intro T hT X
  rcases vx_callVN X hx (C := C) (bytes := bytes) (maxL := maxL) (ret := ret) ho hl hx1 hx2 hcode hy hK (by rw [hT]; exact hcB) hoB hclB hg (hsize.trans hml.symm) (argsL := As) (rest := rest) (fun sig h => hn.trans (hlen sig h)) hstack hW (by rw [hb]; exact hdg)
    (fun vm₁ hW₁ => ⟨hf.1, hf.2, hPc (T.setVm vm₁) hT hW₁⟩) with ⟨v, vm₁, ⟨U', l2, c2, s2⟩, hW₁, X', ⟨g', mk, t, L, e1, e2, hq, h1, hL, h2, h3⟩, st⟩ | ⟨q, vm₁, ⟨U', l2, c2, s2⟩, hW₁, X', ⟨g', mk, t, L, E, ce, e1, e2, hq, hce, hcv, hcl, h1, hL, h2, h3⟩, st⟩
  · dsimp only [Pt.U, Pt.locs, Pt.cells, Pt.slots] at X' e1 e2 h1 h2 h3 st
    subst h1; subst h2; subst h3
    exact Or.inl ⟨v, (T.setVm vm₁).calling g' mk (Value.ref b :: As).toArray, t, U', L, hT, X', hL, e1, e2, hq, st⟩
  · dsimp only [Pt.U, Pt.locs, Pt.cells, Pt.slots] at X' e1 e2 h1 h2 h3 st hcl
    subst h1; subst h2; subst h3
    exact Or.inr ⟨q, (T.setVm vm₁).calling g' mk (Value.ref b :: As).toArray, t, U', L, E, ce, hT, X', hL, e1, e2, hq, hce, hcv, vx_cls hW₁ hcl, st⟩
theorem vx_runSN {y : MethodName} {bytes cc : ByteArray} {maxL nL mc ms n index : Nat} {ret : Option FieldType} {ws : List Cond} {rm : Room} {Pc : Array Value → State → Prop} {Qc : Array Value → State → Outcome → State → Prop} {XC : String → State → State → Prop} {free : Addr → Prop} {Ts : List Cond} {own host : String} {As rest : List Value} {g : JFrame}
    (S : CallFix p m c cc nL s args Ts own) (hM : vx_Met l y ws rm Pc Qc XC mc ms free) (cw : va_CN R s args own index y host bytes maxL ret ws rm mc ms n ∧ (Cond.static y).before args s = true ∧ True) (hp : PreS s H Pc As)
    (hg : g.method = m) (hn : As.length = n) (hsize : g.locals.size = nL) (hstack : g.stack = As.reverse ++ rest) (hW : 2 * g.monitorRoom + (rest.map fun v => v.category).sum ≤ 8) (hdg : decode cc g.pc = .ok (.invokestatic index, 3)) (hf : cells + mc ≤ R.cells ∧ slots + ms ≤ R.slots) :
    vx_Run p l e R s m args below meth c H locs cells slots mc ms g rest (Qc As.toArray) XC free := by
  obtain ⟨⟨⟨hrc, hrs, hfr, hlo, hws, hcw⟩, hcode, hini, hy, hlen, hl⟩, hx1, hx2⟩ := cw
  have hK : vx_Back l R p e below s args y 3 8 (PreOf R mc ms Pc) (PostOf Qc mc ms free) (vx_Post XC mc ms free) := vx_back (bytes := bytes) (maxL := maxL) (ret := ret) hM hp.1 hrc hrs hfr hlo hws hcw (fun a' U hW => word_at hW (Or.inl (by first | rfl | simp [Cond.onTables, Cond.keeps, Cond.steady])) hini)
  obtain ⟨hx, hb, hml, ho, -⟩ := S
  have hPc := hp.2
  intro T hT X
  rcases vx_callSN X hx (bytes := bytes) (maxL := maxL) (ret := ret) ho hl hx1 hini hcode hy hK hg (hsize.trans hml.symm) (argsL := As) (rest := rest) (fun sig h => hn.trans (hlen sig h)) hstack hW (by rw [hb]; exact hdg)
    (fun vm₁ hW₁ => ⟨hf.1, hf.2, hPc (T.setVm vm₁) hT hW₁⟩) with ⟨v, vm₁, ⟨U', l2, c2, s2⟩, hW₁, X', ⟨g', mk, t, L, e1, e2, hq, h1, hL, h2, h3⟩, st⟩ | ⟨q, vm₁, ⟨U', l2, c2, s2⟩, hW₁, X', ⟨g', mk, t, L, E, ce, e1, e2, hq, hce, hcv, hcl, h1, hL, h2, h3⟩, st⟩
  · dsimp only [Pt.U, Pt.locs, Pt.cells, Pt.slots] at X' e1 e2 h1 h2 h3 st
    subst h1; subst h2; subst h3
    exact Or.inl ⟨v, (T.setVm vm₁).calling g' mk As.toArray, t, U', L, hT, X', hL, e1, e2, hq, st⟩
  · dsimp only [Pt.U, Pt.locs, Pt.cells, Pt.slots] at X' e1 e2 h1 h2 h3 st hcl
    subst h1; subst h2; subst h3
    exact Or.inr ⟨q, (T.setVm vm₁).calling g' mk As.toArray, t, U', L, E, ce, hT, X', hL, e1, e2, hq, hce, hcv, vx_cls hW₁ hcl, st⟩
end
/-! ===== END ===== -/
end
section
/-! A small machine beside the machine: cells by their place, values with places for addresses. Its runs are functions; part 04 and on say that the machine does what they say. -/
/-- a cell: an array (its kind, its length, what it holds) or an object (its class, its fields) -/
abbrev mj_E : Type := (Nat × Nat × (Nat → Value)) ⊕ (Nat × List Value)
abbrev mj_H : Type := List mj_E
/-- an instruction, and what it was resolved to -/
abbrev mj_I : Type := Instr × Nat × Nat × Nat × Nat × Nat
abbrev mj_L : Type := List (Option Value)
/-- where a run goes on -/
abbrev mj_S : Type := Nat × mj_L × List Value × mj_H
/-- how a method ends: with a value or none, or by the exception of that number -/
abbrev mj_R : Type := (Option Value ⊕ Nat) × mj_H
def mj_st1 (loc : mj_L) (i : Nat) (v : Value) : mj_L :=
  (match i with
  | 0 => loc
  | j + 1 => match loc[j]? with
    | some (some (.long _)) => loc.set j none
    | some (some (.double _)) => loc.set j none
    | _ => loc).set i (some v)
def mj_st2 (loc : mj_L) (i : Nat) (v : Value) : mj_L := (mj_st1 loc i v).set (i + 1) none
/-- an index that lies in an array of n places -/
def mj_in (i : Int32) (n : Nat) : Bool := decide (0 ≤ i) && Nat.blt i.toNatClampNeg n
/-- what a field of that kind takes: 0 int, 1 long, 2 boolean, 3 a reference -/
def mj_fit (k : Nat) (v : Value) : Bool := match k, v with
  | 0, .int _ => true
  | 1, .long _ => true
  | 2, .int x => decide (x = 0) || decide (x = 1)
  | 3, .ref _ => true
  | _, _ => false
def mj_load1 (loc : mj_L) (i : Nat) : Option Value := match loc[i]? with
  | some (some (.int x)) => some (.int x)
  | _ => none
def mj_loadL (loc : mj_L) (i : Nat) : Option Value := match loc[i]? with
  | some (some (.long x)) => some (.long x)
  | _ => none
def mj_loadD (loc : mj_L) (i : Nat) : Option Value := match loc[i]? with
  | some (some (.double x)) => some (.double x)
  | _ => none
def mj_loadA (loc : mj_L) (i : Nat) : Option Value := match loc[i]? with
  | some (some (.ref x)) => some (.ref x)
  | _ => none
def mj_cnd (c : ClassFile.Cond) (x y : Int32) : Bool := match c with
  | .eq => decide (x = y)
  | .ne => !decide (x = y)
  | .lt => decide (x < y)
  | .ge => decide (y ≤ x)
  | .gt => decide (y < x)
  | .le => decide (x ≤ y)
/-- the class whose objects an array of that kind holds -/
def mj_el (t : Nat) : Option Nat := match t with
  | 3 => some 0
  | 4 => some 3
  | 5 => some 8
  | _ => none
def mj_isref (t : Nat) : Bool := match t with
  | 3 => true
  | 4 => true
  | 5 => true
  | 6 => true
  | _ => false
def mj_df (t : Nat) : Value := match t with
  | 1 => .long 0
  | 0 => .int 0
  | 2 => .int 0
  | _ => .null
/-- the bytes of a place of an array of that kind -/
def mj_by (t : Nat) : Nat := match t with
  | 0 => 4
  | 1 => 8
  | 2 => 1
  | _ => 4
def mj_rows (n k z : Nat) : mj_H := (List.range n).map (fun _ => .inl (1, k, fun _ => .long 0))
/-- one step that stays in its method -/
def mj_step (ins : Instr) (r1 r2 r3 : Nat) (flds : Nat → List Value) (pc : Nat) (loc : mj_L) (st : List Value) (h : mj_H) : Option mj_S :=
  match ins with
  | .iconst n => some (pc + 1, loc, .int (Int32.ofInt n) :: st, h)
  | .bipush n => some (pc + 2, loc, .int (Int32.ofInt n) :: st, h)
  | .sipush n => some (pc + 3, loc, .int (Int32.ofInt n) :: st, h)
  | .lconst n => some (pc + 1, loc, .long (Int64.ofNat n.val) :: st, h)
  | .ldc _ => some (pc + 2, loc, (match r2 with | 0 => .int (Int32.ofNat r1) | _ => .float (UInt32.ofNat r1)) :: st, h)
  | .ldc_w _ => some (pc + 3, loc, (match r2 with | 0 => .int (Int32.ofNat r1) | _ => .float (UInt32.ofNat r1)) :: st, h)
  | .ldc2_w _ => some (pc + 3, loc, (match r2 with | 0 => .long (Int64.ofNat r1) | _ => .double (UInt64.ofNat r1)) :: st, h)
  | .iload_n n => (mj_load1 loc n.val).map fun v => (pc + 1, loc, v :: st, h)
  | .iload n => (mj_load1 loc n).map fun v => (pc + 2, loc, v :: st, h)
  | .lload_n n => (mj_loadL loc n.val).map fun v => (pc + 1, loc, v :: st, h)
  | .lload n => (mj_loadL loc n).map fun v => (pc + 2, loc, v :: st, h)
  | .dload_n n => (mj_loadD loc n.val).map fun v => (pc + 1, loc, v :: st, h)
  | .dload n => (mj_loadD loc n).map fun v => (pc + 2, loc, v :: st, h)
  | .aload_n n => (mj_loadA loc n.val).map fun v => (pc + 1, loc, v :: st, h)
  | .aload n => (mj_loadA loc n).map fun v => (pc + 2, loc, v :: st, h)
  | .istore_n n => match st with
    | .int x :: st => if n.val < loc.length then some (pc + 1, mj_st1 loc n.val (.int x), st, h) else none
    | _ => none
  | .istore n => match st with
    | .int x :: st => if n < loc.length then some (pc + 2, mj_st1 loc n (.int x), st, h) else none
    | _ => none
  | .astore_n n => match st with
    | .ref x :: st => if n.val < loc.length then some (pc + 1, mj_st1 loc n.val (.ref x), st, h) else none
    | _ => none
  | .astore n => match st with
    | .ref x :: st => if n < loc.length then some (pc + 2, mj_st1 loc n (.ref x), st, h) else none
    | _ => none
  | .lstore_n n => match st with
    | .long x :: st => if n.val + 1 < loc.length then some (pc + 1, mj_st2 loc n.val (.long x), st, h) else none
    | _ => none
  | .lstore n => match st with
    | .long x :: st => if n + 1 < loc.length then some (pc + 2, mj_st2 loc n (.long x), st, h) else none
    | _ => none
  | .dstore_n n => match st with
    | .double x :: st => if n.val + 1 < loc.length then some (pc + 1, mj_st2 loc n.val (.double x), st, h) else none
    | _ => none
  | .dstore n => match st with
    | .double x :: st => if n + 1 < loc.length then some (pc + 2, mj_st2 loc n (.double x), st, h) else none
    | _ => none
  | .iinc n c => match loc[n]? with
    | some (some (.int x)) => some (pc + 3, mj_st1 loc n (.int (x + Int32.ofInt c)), st, h)
    | _ => none
  | .iadd => match st with
    | .int y :: .int x :: st => some (pc + 1, loc, .int (x + y) :: st, h)
    | _ => none
  | .isub => match st with
    | .int y :: .int x :: st => some (pc + 1, loc, .int (x - y) :: st, h)
    | _ => none
  | .imul => match st with
    | .int y :: .int x :: st => some (pc + 1, loc, .int (x * y) :: st, h)
    | _ => none
  | .idiv => match st with
    | .int y :: .int x :: st => if y = 0 then none else some (pc + 1, loc, .int (x / y) :: st, h)
    | _ => none
  | .irem => match st with
    | .int y :: .int x :: st => if y = 0 then none else some (pc + 1, loc, .int (x - x / y * y) :: st, h)
    | _ => none
  | .ineg => match st with
    | .int x :: st => some (pc + 1, loc, .int (-x) :: st, h)
    | _ => none
  | .iand => match st with
    | .int y :: .int x :: st => some (pc + 1, loc, .int (x &&& y) :: st, h)
    | _ => none
  | .ishr => match st with
    | .int y :: .int x :: st => some (pc + 1, loc, .int (x >>> (y &&& 31)) :: st, h)
    | _ => none
  | .iushr => match st with
    | .int y :: .int x :: st => some (pc + 1, loc, .int ((x.toUInt32 >>> (y.toUInt32 &&& Int32.toUInt32 31)).toInt32) :: st, h)
    | _ => none
  | .ladd => match st with
    | .long y :: .long x :: st => some (pc + 1, loc, .long (x + y) :: st, h)
    | _ => none
  | .lsub => match st with
    | .long y :: .long x :: st => some (pc + 1, loc, .long (x - y) :: st, h)
    | _ => none
  | .lmul => match st with
    | .long y :: .long x :: st => some (pc + 1, loc, .long (x * y) :: st, h)
    | _ => none
  | .ldiv => match st with
    | .long y :: .long x :: st => if y = 0 then none else some (pc + 1, loc, .long (x / y) :: st, h)
    | _ => none
  | .lrem => match st with
    | .long y :: .long x :: st => if y = 0 then none else some (pc + 1, loc, .long (x - x / y * y) :: st, h)
    | _ => none
  | .lneg => match st with
    | .long x :: st => some (pc + 1, loc, .long (-x) :: st, h)
    | _ => none
  | .land => match st with
    | .long y :: .long x :: st => some (pc + 1, loc, .long (x &&& y) :: st, h)
    | _ => none
  | .lor => match st with
    | .long y :: .long x :: st => some (pc + 1, loc, .long (x ||| y) :: st, h)
    | _ => none
  | .lshl => match st with
    | .int y :: .long x :: st => some (pc + 1, loc, .long (x <<< (y.toInt64 &&& 63)) :: st, h)
    | _ => none
  | .lcmp => match st with
    | .long y :: .long x :: st => some (pc + 1, loc, .int (lg_cmp x y) :: st, h)
    | _ => none
  | .i2l => match st with
    | .int x :: st => some (pc + 1, loc, .long x.toInt64 :: st, h)
    | _ => none
  | .l2i => match st with
    | .long x :: st => some (pc + 1, loc, .int x.toInt32 :: st, h)
    | _ => none
  | .i2b => match st with
    | .int x :: st => some (pc + 1, loc, .int x.toInt8.toInt32 :: st, h)
    | _ => none
  | .dup => match st with
    | .int x :: st => some (pc + 1, loc, .int x :: .int x :: st, h)
    | .ref x :: st => some (pc + 1, loc, .ref x :: .ref x :: st, h)
    | _ => none
  | .dup2 => match st with
    | .int x :: .ref y :: st => some (pc + 1, loc, .int x :: .ref y :: .int x :: .ref y :: st, h)
    | _ => none
  | .pop => match st with
    | .int _ :: st => some (pc + 1, loc, st, h)
    | .ref _ :: st => some (pc + 1, loc, st, h)
    | _ => none
  | .pop2 => match st with
    | .long _ :: st => some (pc + 1, loc, st, h)
    | .double _ :: st => some (pc + 1, loc, st, h)
    | _ => none
  | .goto _ => some (r1, loc, st, h)
  | .ifCond c _ => match st with
    | .int x :: st => some (if mj_cnd c x 0 then r1 else pc + 3, loc, st, h)
    | _ => none
  | .if_icmp c _ => match st with
    | .int y :: .int x :: st => some (if mj_cnd c x y then r1 else pc + 3, loc, st, h)
    | _ => none
  | .tableswitch dflt lo hi offs => match st with
    | .int x :: st =>
      if x.toInt < lo ∨ hi < x.toInt then (if 0 ≤ (pc : Int) + dflt then some (((pc : Int) + dflt).toNat, loc, st, h) else none)
      else match offs[(x.toInt - lo).toNat]? with
        | some off => if 0 ≤ (pc : Int) + off then some (((pc : Int) + off).toNat, loc, st, h) else none
        | none => none
    | _ => none
  | .i2f => match st with
    | .int x :: st => some (pc + 1, loc, .float (FP.i2f x) :: st, h)
    | _ => none
  | .i2d => match st with
    | .int x :: st => some (pc + 1, loc, .double (FP.i2d x) :: st, h)
    | _ => none
  | .fdiv => match st with
    | .float y :: .float x :: st => if FP.fdiv x y &&& 0x7fffffff ≤ 0x7f800000 then some (pc + 1, loc, .float (FP.fdiv x y) :: st, h) else none
    | _ => none
  | .ddiv => match st with
    | .double y :: .double x :: st => if FP.ddiv x y &&& 0x7fffffffffffffff ≤ 0x7ff0000000000000 then some (pc + 1, loc, .double (FP.ddiv x y) :: st, h) else none
    | _ => none
  | .f2d => match st with
    | .float x :: st => if FP.f2d x &&& 0x7fffffffffffffff ≤ 0x7ff0000000000000 then some (pc + 1, loc, .double (FP.f2d x) :: st, h) else none
    | _ => none
  | .dcmp op => match st with
    | .double y :: .double x :: st => some (pc + 1, loc, .int (Op.cmpValue (FP.dcmp x y) op) :: st, h)
    | _ => none
  | .getfield _ => match st with
    | .ref a :: st => match h[a]? with
      | some (.inr (ci, fs)) => if ci = r1 then (match fs[r2]? with
        | some v => some (pc + 3, loc, v :: st, h)
        | none => none) else none
      | _ => none
    | _ => none
  | .putfield _ => match st with
    | v :: .ref a :: st => match h[a]? with
      | some (.inr (ci, fs)) => if ci = r1 ∧ r2 < fs.length ∧ mj_fit r3 v = true then some (pc + 3, loc, st, h.set a (.inr (ci, fs.set r2 v))) else none
      | _ => none
    | _ => none
  | .arraylength => match st with
    | .ref a :: st => match h[a]? with
      | some (.inl (_, n, _)) => some (pc + 1, loc, .int (nI n) :: st, h)
      | _ => none
    | _ => none
  | .iaload => match st with
    | .int i :: .ref a :: st => match h[a]? with
      | some (.inl (t, n, f)) => if (t = 0 ∨ t = 100) ∧ mj_in i n = true then some (pc + 1, loc, f i.toNatClampNeg :: st, h) else none
      | _ => none
    | _ => none
  | .laload => match st with
    | .int i :: .ref a :: st => match h[a]? with
      | some (.inl (t, n, f)) => if t = 1 ∧ mj_in i n = true then some (pc + 1, loc, f i.toNatClampNeg :: st, h) else none
      | _ => none
    | _ => none
  | .baload => match st with
    | .int i :: .ref a :: st => match h[a]? with
      | some (.inl (t, n, f)) => if t = 2 ∧ mj_in i n = true then some (pc + 1, loc, f i.toNatClampNeg :: st, h) else none
      | _ => none
    | _ => none
  | .aaload => match st with
    | .int i :: .ref a :: st => match h[a]? with
      | some (.inl (t, n, f)) => if mj_isref t = true ∧ mj_in i n = true then some (pc + 1, loc, f i.toNatClampNeg :: st, h) else none
      | _ => none
    | _ => none
  | .iastore => match st with
    | .int x :: .int i :: .ref a :: st => match h[a]? with
      | some (.inl (t, n, f)) => if t = 0 ∧ mj_in i n = true then some (pc + 1, loc, st, h.set a (.inl (t, n, updV f i.toNatClampNeg (.int x)))) else none
      | _ => none
    | _ => none
  | .lastore => match st with
    | .long x :: .int i :: .ref a :: st => match h[a]? with
      | some (.inl (t, n, f)) => if t = 1 ∧ mj_in i n = true then some (pc + 1, loc, st, h.set a (.inl (t, n, updV f i.toNatClampNeg (.long x)))) else none
      | _ => none
    | _ => none
  | .bastore => match st with
    | .int x :: .int i :: .ref a :: st => match h[a]? with
      | some (.inl (t, n, f)) => if t = 2 ∧ mj_in i n = true then some (pc + 1, loc, st, h.set a (.inl (t, n, updV f i.toNatClampNeg (.int x.toInt8.toInt32)))) else none
      | _ => none
    | _ => none
  | .aastore => match st with
    | .ref v :: .int i :: .ref a :: st => match h[a]? with
      | some (.inl (t, n, f)) => match h[v]? with
        | some (.inr (cv, _)) => if mj_el t = some cv ∧ mj_in i n = true then some (pc + 1, loc, st, h.set a (.inl (t, n, updV f i.toNatClampNeg (.ref v)))) else none
        | _ => none
      | _ => none
    | _ => none
  | .newarray _ => match st with
    | .int n :: st => if 0 ≤ n ∧ n.toNatClampNeg * 8 ≤ 536870912 ∧ r1 ≤ 2 then some (pc + 2, loc, .ref h.length :: st, h ++ [.inl (r1, n.toNatClampNeg, fun _ => mj_df r1)]) else none
    | _ => none
  | .anewarray _ => match st with
    | .int n :: st => if 0 ≤ n ∧ n.toNatClampNeg * 4 ≤ 536870912 then some (pc + 3, loc, .ref h.length :: st, h ++ [.inl (r1, n.toNatClampNeg, fun _ => .null)]) else none
    | _ => none
  | .multianewarray _ _ => match st with
    | .int k :: .int n :: st => if 0 ≤ n ∧ 0 ≤ k ∧ n.toNatClampNeg * 4 ≤ 536870912 ∧ k.toNatClampNeg * 8 ≤ 536870912 then some (pc + 4, loc, .ref h.length :: st, h ++ (.inl (6, n.toNatClampNeg, fun i => if i < n.toNatClampNeg then .ref (h.length + 1 + i) else .null) :: mj_rows n.toNatClampNeg k.toNatClampNeg 0)) else none
    | _ => none
  | .new _ => some (pc + 3, loc, .ref h.length :: st, h ++ [.inr (r1, flds r1)])
  | _ => none
end
section
def mj_T0 : u_T := fun k => match k with
  | 0 => ("PolyRegisters$Bench", "rows", "[[J", true)
  | 1 => ("PolyRegisters$Bench", "places", "[I", true)
  | 2 => ("PolyRegisters$Bench", "heights", "[I", true)
  | _ => ("PolyRegisters$Bench", "points", "I", false)
def mj_y0 : Nat → FieldType := fun k => match k with
  | 0 => .array (.array .long)
  | 1 => .array .int
  | 2 => .array .int
  | _ => .int
def mj_T1 : u_T := fun k => match k with
  | 0 => ("PolyRegisters$Desk", "left", "LPolyRegisters$Poly;", true)
  | 1 => ("PolyRegisters$Desk", "right", "LPolyRegisters$Poly;", true)
  | 2 => ("PolyRegisters$Desk", "rest", "LPolyRegisters$Poly;", true)
  | 3 => ("PolyRegisters$Desk", "product", "LPolyRegisters$Poly;", true)
  | 4 => ("PolyRegisters$Desk", "one", "LPolyRegisters$Wide;", true)
  | 5 => ("PolyRegisters$Desk", "two", "LPolyRegisters$Wide;", true)
  | 6 => ("PolyRegisters$Desk", "small", "LPolyRegisters$Wide;", true)
  | _ => ("PolyRegisters$Desk", "divisor", "LPolyRegisters$Divisor;", true)
def mj_y1 : Nat → FieldType := fun k => match k with
  | 0 => .object "PolyRegisters$Poly"
  | 1 => .object "PolyRegisters$Poly"
  | 2 => .object "PolyRegisters$Poly"
  | 3 => .object "PolyRegisters$Poly"
  | 4 => .object "PolyRegisters$Wide"
  | 5 => .object "PolyRegisters$Wide"
  | 6 => .object "PolyRegisters$Wide"
  | _ => .object "PolyRegisters$Divisor"
def mj_T2 : u_T := fun k => match k with
  | 0 => ("PolyRegisters$Divisor", "limbs", "[I", true)
  | 1 => ("PolyRegisters$Divisor", "size", "I", false)
  | 2 => ("PolyRegisters$Divisor", "sign", "I", false)
  | _ => ("PolyRegisters$Divisor", "factor", "J", false)
def mj_y2 : Nat → FieldType := fun k => match k with
  | 0 => .array .int
  | 1 => .int
  | 2 => .int
  | _ => .long
def mj_T3 : u_T := fun k => match k with
  | 0 => ("PolyRegisters$Poly", "parts", "[LPolyRegisters$Wide;", true)
  | 1 => ("PolyRegisters$Poly", "beyond", "LPolyRegisters$Wide;", true)
  | _ => ("PolyRegisters$Poly", "degree", "I", false)
def mj_y3 : Nat → FieldType := fun k => match k with
  | 0 => .array (.object "PolyRegisters$Wide")
  | 1 => .object "PolyRegisters$Wide"
  | _ => .int
def mj_T4 : u_T := fun k => match k with
  | 0 => ("PolyRegisters$Reader", "desk", "LPolyRegisters$Desk;", true)
  | 1 => ("PolyRegisters$Reader", "text", "LPolyRegisters$Text;", false)
  | 2 => ("PolyRegisters$Reader", "place", "I", false)
  | 3 => ("PolyRegisters$Reader", "error", "I", false)
  | 4 => ("PolyRegisters$Reader", "isTooGreat", "Z", false)
  | 5 => ("PolyRegisters$Reader", "sums", "[[J", true)
  | 6 => ("PolyRegisters$Reader", "products", "[[J", true)
  | _ => ("PolyRegisters$Reader", "factor", "[J", true)
def mj_y4 : Nat → FieldType := fun k => match k with
  | 0 => .object "PolyRegisters$Desk"
  | 1 => .object "PolyRegisters$Text"
  | 2 => .int
  | 3 => .int
  | 4 => .boolean
  | 5 => .array (.array .long)
  | 6 => .array (.array .long)
  | _ => .array .long
def mj_T5 : u_T := fun k => match k with
  | 0 => ("PolyRegisters$Roots", "desk", "LPolyRegisters$Desk;", true)
  | 1 => ("PolyRegisters$Roots", "sturm", "LPolyRegisters$Sturm;", true)
  | 2 => ("PolyRegisters$Roots", "isSimple", "Z", false)
  | 3 => ("PolyRegisters$Roots", "count", "I", false)
  | 4 => ("PolyRegisters$Roots", "changesBelow", "I", false)
  | 5 => ("PolyRegisters$Roots", "scale", "J", false)
  | 6 => ("PolyRegisters$Roots", "low", "LPolyRegisters$Wide;", true)
  | 7 => ("PolyRegisters$Roots", "isExact", "Z", false)
  | 8 => ("PolyRegisters$Roots", "bound", "LPolyRegisters$Wide;", true)
  | 9 => ("PolyRegisters$Roots", "step", "LPolyRegisters$Wide;", true)
  | 10 => ("PolyRegisters$Roots", "tried", "LPolyRegisters$Wide;", true)
  | _ => ("PolyRegisters$Roots", "unit", "LPolyRegisters$Wide;", true)
def mj_y5 : Nat → FieldType := fun k => match k with
  | 0 => .object "PolyRegisters$Desk"
  | 1 => .object "PolyRegisters$Sturm"
  | 2 => .boolean
  | 3 => .int
  | 4 => .int
  | 5 => .long
  | 6 => .object "PolyRegisters$Wide"
  | 7 => .boolean
  | 8 => .object "PolyRegisters$Wide"
  | 9 => .object "PolyRegisters$Wide"
  | 10 => .object "PolyRegisters$Wide"
  | _ => .object "PolyRegisters$Wide"
def mj_T6 : u_T := fun k => match k with
  | 0 => ("PolyRegisters$Sturm", "desk", "LPolyRegisters$Desk;", true)
  | 1 => ("PolyRegisters$Sturm", "row", "[LPolyRegisters$Poly;", true)
  | 2 => ("PolyRegisters$Sturm", "length", "I", false)
  | 3 => ("PolyRegisters$Sturm", "lead", "LPolyRegisters$Wide;", true)
  | 4 => ("PolyRegisters$Sturm", "known", "LPolyRegisters$Wide;", true)
  | _ => ("PolyRegisters$Sturm", "place", "LPolyRegisters$Wide;", true)
def mj_y6 : Nat → FieldType := fun k => match k with
  | 0 => .object "PolyRegisters$Desk"
  | 1 => .array (.object "PolyRegisters$Poly")
  | 2 => .int
  | 3 => .object "PolyRegisters$Wide"
  | 4 => .object "PolyRegisters$Wide"
  | _ => .object "PolyRegisters$Wide"
def mj_T7 : u_T := fun k => match k with
  | 0 => ("PolyRegisters$Text", "bytes", "[B", true)
  | _ => ("PolyRegisters$Text", "length", "I", false)
def mj_y7 : Nat → FieldType := fun k => match k with
  | 0 => .array .byte
  | _ => .int
def mj_T8 : u_T := fun k => match k with
  | 0 => ("PolyRegisters$Wide", "limbs", "[I", true)
  | 1 => ("PolyRegisters$Wide", "size", "I", false)
  | _ => ("PolyRegisters$Wide", "sign", "I", false)
def mj_y8 : Nat → FieldType := fun k => match k with
  | 0 => .array .int
  | 1 => .int
  | _ => .int
def mj_T9 : u_T := fun k => match k with
  | 0 => ("PolyRegisters", "bench", "LPolyRegisters$Bench;", true)
  | 1 => ("PolyRegisters", "earlier", "[LPolyRegisters$Bench;", true)
  | 2 => ("PolyRegisters", "undoable", "I", false)
  | 3 => ("PolyRegisters", "nextEarlier", "I", false)
  | 4 => ("PolyRegisters", "buffer", "LPolyRegisters$Text;", true)
  | 5 => ("PolyRegisters", "written", "LPolyRegisters$Text;", true)
  | 6 => ("PolyRegisters", "spare", "LPolyRegisters$Text;", true)
  | 7 => ("PolyRegisters", "desk", "LPolyRegisters$Desk;", true)
  | 8 => ("PolyRegisters", "sturm", "LPolyRegisters$Sturm;", true)
  | 9 => ("PolyRegisters", "roots", "LPolyRegisters$Roots;", true)
  | 10 => ("PolyRegisters", "reader", "LPolyRegisters$Reader;", true)
  | 11 => ("PolyRegisters", "toldTop", "LPolyRegisters$Wide;", true)
  | 12 => ("PolyRegisters", "toldBottom", "LPolyRegisters$Wide;", true)
  | 13 => ("PolyRegisters", "result", "[J", true)
  | 14 => ("PolyRegisters", "second", "[J", true)
  | _ => ("PolyRegisters", "errorAt", "I", false)
def mj_y9 : Nat → FieldType := fun k => match k with
  | 0 => .object "PolyRegisters$Bench"
  | 1 => .array (.object "PolyRegisters$Bench")
  | 2 => .int
  | 3 => .int
  | 4 => .object "PolyRegisters$Text"
  | 5 => .object "PolyRegisters$Text"
  | 6 => .object "PolyRegisters$Text"
  | 7 => .object "PolyRegisters$Desk"
  | 8 => .object "PolyRegisters$Sturm"
  | 9 => .object "PolyRegisters$Roots"
  | 10 => .object "PolyRegisters$Reader"
  | 11 => .object "PolyRegisters$Wide"
  | 12 => .object "PolyRegisters$Wide"
  | 13 => .array .long
  | 14 => .array .long
  | _ => .int
def mj_T10 : u_T := fun k => match k with
  | 0 => ("PolyRegistersModel", "now", "[J", true)
  | 1 => ("PolyRegistersModel", "before", "[J", true)
  | 2 => ("PolyRegistersModel", "changes", "I", false)
  | 3 => ("PolyRegistersModel", "thrown", "I", false)
  | 4 => ("PolyRegistersModel", "big", "[I", true)
  | 5 => ("PolyRegistersModel", "over", "[I", true)
  | 6 => ("PolyRegistersModel", "by", "[I", true)
  | 7 => ("PolyRegistersModel", "rowLength", "I", false)
  | 8 => ("PolyRegistersModel", "text", "[I", true)
  | 9 => ("PolyRegistersModel", "textMany", "I", false)
  | 10 => ("PolyRegistersModel", "at", "I", false)
  | 11 => ("PolyRegistersModel", "open", "I", false)
  | 12 => ("PolyRegistersModel", "error", "I", false)
  | 13 => ("PolyRegistersModel", "isBeyond", "Z", false)
  | 14 => ("PolyRegistersModel", "written", "[I", true)
  | _ => ("PolyRegistersModel", "writtenMany", "I", false)
def mj_y10 : Nat → FieldType := fun k => match k with
  | 0 => .array .long
  | 1 => .array .long
  | 2 => .int
  | 3 => .int
  | 4 => .array .int
  | 5 => .array .int
  | 6 => .array .int
  | 7 => .int
  | 8 => .array .int
  | 9 => .int
  | 10 => .int
  | 11 => .int
  | 12 => .int
  | 13 => .boolean
  | 14 => .array .int
  | _ => .int
abbrev mj_cl : List vw_C := [("PolyRegisters$Bench", mj_T0, 4), ("PolyRegisters$Desk", mj_T1, 8), ("PolyRegisters$Divisor", mj_T2, 4), ("PolyRegisters$Poly", mj_T3, 3), ("PolyRegisters$Reader", mj_T4, 8), ("PolyRegisters$Roots", mj_T5, 12), ("PolyRegisters$Sturm", mj_T6, 6), ("PolyRegisters$Text", mj_T7, 2), ("PolyRegisters$Wide", mj_T8, 3), ("PolyRegisters", mj_T9, 16), ("PolyRegistersModel", mj_T10, 16)]
def mj_ft (ci : Nat) : Nat → FieldType := match ci with
  | 0 => mj_y0
  | 1 => mj_y1
  | 2 => mj_y2
  | 3 => mj_y3
  | 4 => mj_y4
  | 5 => mj_y5
  | 6 => mj_y6
  | 7 => mj_y7
  | 8 => mj_y8
  | 9 => mj_y9
  | _ => mj_y10
def mj_nc (ci : Nat) : Nat := match ci with
  | 0 => 4
  | 1 => 8
  | 2 => 4
  | 3 => 3
  | 4 => 8
  | 5 => 12
  | 6 => 6
  | 7 => 2
  | 8 => 3
  | 9 => 16
  | _ => 16
def mj_kd (t : FieldType) : Nat := match t with
  | .int => 0
  | .long => 1
  | .boolean => 2
  | _ => 3
/-- a new object's fields -/
def mj_new (ci : Nat) : List Value := (List.range (mj_nc ci)).map (fun k => defaultValue (mj_ft ci k))
def mj_tt (t : Nat) : FieldType := match t with
  | 0 => .int
  | 1 => .long
  | 2 => .byte
  | 3 => .object "PolyRegisters$Bench"
  | 4 => .object "PolyRegisters$Poly"
  | 5 => .object "PolyRegisters$Wide"
  | _ => .array .long
abbrev mj_tys (dA : Nat → ClassId) : List (ClassId × FieldType) := [(dA 0, .int), (dA 1, .long), (dA 2, .byte), (dA 3, .object "PolyRegisters$Bench"), (dA 4, .object "PolyRegisters$Poly"), (dA 5, .object "PolyRegisters$Wide"), (dA 6, .array .long)]
/-- a word that stands as long as the tables only grow warm -/
def mj_mv (w : Jvm.Cond) : Bool := goodWord w || (match w with
  | .fieldLinkNest _ _ _ _ _ _ => true
  | .methodLinkNest _ _ _ _ => true
  | .castable _ _ => true
  | .declares _ => true
  | .arrayOver (.object _) => true
  | .arrayOver (.array _) => true
  | _ => false)
def mj_inw (w : Jvm.Cond) : Bool := decide (w ∈ lw_tbl) && mj_mv w
def mj_clsB (ci : Nat) (q : vw_C) : Bool :=
  ((List.range q.2.2).all fun k => mj_inw (u_lay q.1 q.2.1 k) && decide (parseFieldDescriptor (q.2.1 k).2.2.1 = some (mj_ft ci k)) && (List.range q.2.2).all fun j => decide (k = j) || decide ((q.2.1 k).2.1 ≠ (q.2.1 j).2.1)) &&
  mj_inw (.instantiable q.1 q.2.2) && mj_inw (.initialized q.1) && decide (q.2.2 = mj_nc ci)
theorem mj_c0 : mj_clsB 0 ("PolyRegisters$Bench", mj_T0, 4) = true := by decide +kernel
theorem mj_c1 : mj_clsB 1 ("PolyRegisters$Desk", mj_T1, 8) = true := by decide +kernel
theorem mj_c2 : mj_clsB 2 ("PolyRegisters$Divisor", mj_T2, 4) = true := by decide +kernel
theorem mj_c3 : mj_clsB 3 ("PolyRegisters$Poly", mj_T3, 3) = true := by decide +kernel
theorem mj_c4 : mj_clsB 4 ("PolyRegisters$Reader", mj_T4, 8) = true := by decide +kernel
theorem mj_c5 : mj_clsB 5 ("PolyRegisters$Roots", mj_T5, 12) = true := by decide +kernel
theorem mj_c6 : mj_clsB 6 ("PolyRegisters$Sturm", mj_T6, 6) = true := by decide +kernel
theorem mj_c7 : mj_clsB 7 ("PolyRegisters$Text", mj_T7, 2) = true := by decide +kernel
theorem mj_c8 : mj_clsB 8 ("PolyRegisters$Wide", mj_T8, 3) = true := by decide +kernel
theorem mj_c9 : mj_clsB 9 ("PolyRegisters", mj_T9, 16) = true := by decide +kernel
theorem mj_c10 : mj_clsB 10 ("PolyRegistersModel", mj_T10, 16) = true := by decide +kernel
theorem mj_clsA (ci : Nat) (q : vw_C) (h : mj_cl[ci]? = some q) : mj_clsB ci q = true := by
  match ci, h with
  | 0, h => cases h; exact mj_c0
  | 1, h => cases h; exact mj_c1
  | 2, h => cases h; exact mj_c2
  | 3, h => cases h; exact mj_c3
  | 4, h => cases h; exact mj_c4
  | 5, h => cases h; exact mj_c5
  | 6, h => cases h; exact mj_c6
  | 7, h => cases h; exact mj_c7
  | 8, h => cases h; exact mj_c8
  | 9, h => cases h; exact mj_c9
  | 10, h => cases h; exact mj_c10
  | ci + 11, h => simp [mj_cl] at h
theorem mj_inw_of {w : Jvm.Cond} (h : mj_inw w = true) : w ∈ lw_tbl ∧ mj_mv w = true := by
  unfold mj_inw at h
  rw [Bool.and_eq_true, decide_eq_true_eq] at h
  exact h
theorem mj_cls {ci : Nat} {q : vw_C} (h : mj_cl[ci]? = some q) : (∀ w ∈ u_ws q.1 q.2.1 q.2.2, w ∈ lw_tbl ∧ mj_mv w = true) ∧ (∀ k, k < q.2.2 → parseFieldDescriptor (q.2.1 k).2.2.1 = some (mj_ft ci k)) ∧ (∀ a, a < q.2.2 → ∀ b, b < q.2.2 → a ≠ b → (q.2.1 a).2.1 ≠ (q.2.1 b).2.1) ∧ (Jvm.Cond.instantiable q.1 q.2.2 ∈ lw_tbl ∧ mj_mv (.instantiable q.1 q.2.2) = true) ∧ (Jvm.Cond.initialized q.1 ∈ lw_tbl ∧ mj_mv (.initialized q.1) = true) ∧ q.2.2 = mj_nc ci := by
  have hA := mj_clsA ci q h
  unfold mj_clsB at hA
  simp only [Bool.and_eq_true, List.all_eq_true, List.mem_range, decide_eq_true_eq, Bool.or_eq_true] at hA
  obtain ⟨⟨⟨h1, h2⟩, h3⟩, h4⟩ := hA
  refine ⟨fun w hw => ?_, fun k hk => (h1 k hk).1.2, fun a ha b hb hab => ?_, mj_inw_of h2, mj_inw_of h3, h4⟩
  · obtain ⟨k, hk, rfl⟩ := List.mem_map.mp hw
    exact mj_inw_of (h1 k (List.mem_range.mp hk)).1.1
  · rcases (h1 a ha).2 b hb with e | e
    · exact absurd e hab
    · exact e
theorem mj_overA {args : Array Value} {first s : State} {o : Option Outcome} {idx : List Nat} {t : FieldType} (h : (Jvm.Cond.arrayOver (.array t)).holds args first o s idx = true) :
    ∃ comp c k, s.vm.findClass (FieldType.array t).toString = some comp ∧ (s.vm.classes.findIdx? fun (x : Class) => match x.kind with | .array component _ => component == comp | _ => false) = some c ∧ s.vm.classes[c]? = some k ∧ k.kind = .array comp (.array t) ∧ s.vm.findClass ("[" ++ (FieldType.array t).toString) = some c := by
  simp only [Cond.holds, Cond.value, beq_iff_eq] at h
  cases hc : s.vm.findClass (FieldType.array t).toString with
  | none => simp [hc] at h
  | some comp =>
    simp only [hc, Option.bind_some, Option.bind_eq_some_iff, Option.map_eq_some_iff] at h
    obtain ⟨c, hi, k, hk, hb⟩ := h
    have hi0 := hi
    obtain ⟨hlt, hp, -⟩ := Array.findIdx?_eq_some_iff_getElem.mp hi
    have hkk : s.vm.classes[c] = k := (Array.getElem?_eq_some_iff.mp hk).2
    rw [hkk] at hp
    cases hkind : k.kind with
    | array component ty =>
      rw [hkind] at hb hp
      simp at hb hp
      exact ⟨comp, c, k, rfl, hi0, hk, by rw [hkind, hp, hb.1], hb.2⟩
    | _ => rw [hkind] at hb; simp at hb
theorem mj_overA_moved {A A' : Array Value} {t : FieldType} {u U : State} (hvm : u.vm.Alike U.vm) (h : (Jvm.Cond.arrayOver (.array t)).before A u = true) : (Jvm.Cond.arrayOver (.array t)).before A' U = true := by
  obtain ⟨comp, c, k, h1, h2, h3, h4, h5⟩ := mj_overA h
  obtain ⟨k', hk', he⟩ := hvm.2.2 _ _ h3
  have hi : (U.vm.classes.findIdx? fun (x : Class) => match x.kind with | .array component _ => component == comp | _ => false) = some c := by
    have hb9 : U.vm.bare = u.vm.bare := by first | exact hvm.bare_eq | exact hvm.bare_eq.symm
    refine Eq.trans ((va_idx_bare U.vm comp).symm.trans ?_) h2
    rw [hb9]
    exact va_idx_bare u.vm comp
  have hkind : k'.kind = .array comp (.array t) := by rw [he]; exact h4
  have f1 : U.vm.findClass (FieldType.array t).toString = some comp := by rw [hvm.findClass]; exact h1
  have f2 : U.vm.findClass ("[" ++ (FieldType.array t).toString) = some c := by rw [hvm.findClass]; exact h5
  unfold Cond.before Cond.holds
  simp only [Cond.value]
  rw [f1, Option.bind_some]
  refine (congrArg (fun o : Option Nat => (o.bind (fun c => (U.vm.classes[c]?).map fun (k : Class) => match k.kind with | .array _ ty => decide (ty = FieldType.array t) && decide (U.vm.findClass ("[" ++ (FieldType.array t).toString) = some c) | _ => false) == some true)) hi).trans ?_
  simp [hk', hkind, f2]
theorem mj_move {w : Jvm.Cond} (hm : mj_mv w = true) {a a' : Array Value} {s U : State} (hW : s.WarmedH U.vm) (h : w.before a s = true) : w.before a' U = true := by
  unfold mj_mv at hm
  rw [Bool.or_eq_true] at hm
  rcases hm with hm | hm
  · exact word_at hW (good_of_word hm) h
  · cases w <;> (try exact absurd hm Bool.false_ne_true)
    · exact va_Nw.use rfl (va_Nw.warmM hW (va_Nw.of rfl h))
    · exact va_Nw.use rfl (va_Nw.warmF hW (va_Nw.of rfl h))
    · exact va_Nw.use rfl (va_Nw.warmD hW (va_Nw.of rfl h))
    · exact va_Nw.use rfl (va_Nw.warmC hW (va_Nw.of rfl h))
    · rename_i t
      cases t <;> (try exact absurd hm Bool.false_ne_true)
      · exact va_AO.use (va_AO.moved hW.alike (va_AO.of h))
      · exact mj_overA_moved hW.alike h
end
section
/-! What the small machine's state says of the machine's: addresses for places, cells, locals. -/
/-- the address of a place: place 0 is the script's -/
def mj_ad (B b : Nat) (k : Nat) : Nat := match k with
  | 0 => b
  | j + 1 => B + j
def mj_rv (B b : Nat) (v : Value) : Value := match v with
  | .ref k => .ref (mj_ad B b k)
  | v => v
theorem mj_ad_inj {B b : Nat} (hb : b < B) {i j : Nat} (h : mj_ad B b i = mj_ad B b j) : i = j := by
  cases i <;> cases j <;> simp only [mj_ad] at h <;> omega
theorem mj_ad_ge {B b k : Nat} (h : k ≠ 0) : B ≤ mj_ad B b k := by
  cases k with
  | zero => exact absurd rfl h
  | succ j => simp only [mj_ad]; omega
theorem mj_rv_cat (B b : Nat) (v : Value) : (mj_rv B b v).category = v.category := by cases v <;> rfl
theorem mj_rv_idem_int (B b : Nat) (x : Int32) : mj_rv B b (.int x) = .int x := rfl
/-- the listed locals -/
def mj_lv (B b : Nat) (loc : mj_L) : List (Nat × Value) := (List.range loc.length).filterMap fun i => match loc[i]? with
  | some (some v) => some (i, mj_rv B b v)
  | _ => none
def mj_LR (B b : Nat) (loc : mj_L) (ls : Array Slot) (nL : Nat) : Prop := ls.size = nL ∧ loc.length = nL ∧ lv_wf ls ∧ ∀ (i : Nat) (v : Value), loc[i]? = some (some v) → ls[i]? = some (.val (mj_rv B b v))
theorem mj_lv_mem {B b : Nat} {loc : mj_L} {i : Nat} {v : Value} (h : loc[i]? = some (some v)) : (i, mj_rv B b v) ∈ mj_lv B b loc := by
  refine List.mem_filterMap.mpr ⟨i, List.mem_range.mpr (List.getElem?_eq_some_iff.mp h).1, ?_⟩
  simp [h]
theorem mj_lv_of {B b : Nat} {loc : mj_L} {q : Nat × Value} (h : q ∈ mj_lv B b loc) : ∃ v, loc[q.1]? = some (some v) ∧ q.2 = mj_rv B b v := by
  obtain ⟨i, -, hi⟩ := List.mem_filterMap.mp h
  split at hi
  · rename_i v hv
    cases hi
    exact ⟨v, hv, rfl⟩
  · cases hi
theorem mj_LR.has {B b : Nat} {loc : mj_L} {ls : Array Slot} {nL : Nat} (h : mj_LR B b loc ls nL) : lv_has ls nL (mj_lv B b loc) := by
  refine ⟨h.1, h.2.2.1, fun q hq => ?_⟩
  obtain ⟨v, h1, h2⟩ := mj_lv_of hq
  rw [h2]
  exact h.2.2.2 _ _ h1
theorem mj_LR.get {B b : Nat} {loc : mj_L} {ls : Array Slot} {nL : Nat} (h : mj_LR B b loc ls nL) {i : Nat} {v : Value} (hi : loc[i]? = some (some v)) : ls[i]? = some (.val (mj_rv B b v)) := h.2.2.2 i v hi
theorem mj_st1_len (loc : mj_L) (i : Nat) (v : Value) : (mj_st1 loc i v).length = loc.length := by
  unfold mj_st1
  rw [List.length_set]
  split
  · rfl
  · split <;> simp
theorem mj_st1_get {loc : mj_L} {i j : Nat} {v w : Value} (h : (mj_st1 loc i v)[j]? = some (some w)) : (j = i ∧ w = v) ∨ (j ≠ i ∧ loc[j]? = some (some w) ∧ ¬ (j + 1 = i ∧ w.category = 2)) := by
  by_cases hj : j = i
  · subst hj
    refine Or.inl ⟨rfl, ?_⟩
    unfold mj_st1 at h
    have hl := (List.getElem?_eq_some_iff.mp h).1
    rw [List.length_set] at hl
    rw [List.getElem?_set_self hl] at h
    cases h
    rfl
  · refine Or.inr ⟨hj, ?_⟩
    unfold mj_st1 at h
    rw [List.getElem?_set_ne (fun e => hj e.symm)] at h
    cases i with
    | zero => exact ⟨h, fun q => by omega⟩
    | succ k =>
      simp only at h
      by_cases hk : j = k
      · subst hk
        cases hl : loc[j]? with
        | none => rw [hl] at h; simp [hl] at h
        | some o =>
          cases o with
          | none => rw [hl] at h; simp [hl] at h
          | some z =>
            cases z <;> simp only [hl] at h
            all_goals first
              | (rw [List.getElem?_set] at h; simp only [if_true] at h; split at h <;> simp at h; done)
              | (cases h; exact ⟨rfl, fun q => by simp [Value.category] at q⟩)
      · have h2 : loc[j]? = some (some w) := by
          split at h
          · rw [List.getElem?_set_ne (fun e => hk e.symm)] at h; exact h
          · rw [List.getElem?_set_ne (fun e => hk e.symm)] at h; exact h
          · exact h
        exact ⟨h2, fun q => hk (by omega)⟩
theorem mj_LR.st1 {B b : Nat} {loc : mj_L} {ls ls' : Array Slot} {nL i : Nat} {v w : Value} (h : mj_LR B b loc ls nL) (hw : w = mj_rv B b v)
    (h' : lv_has ls' nL ((i, w) :: (mj_lv B b loc).filter (fun q => !(q.1 == i) && !(q.1 + 1 == i && q.2.category == 2)))) : mj_LR B b (mj_st1 loc i v) ls' nL := by
  refine ⟨h'.1, (mj_st1_len loc i v).trans h.2.1, h'.2.1, fun j u hu => ?_⟩
  rcases mj_st1_get hu with ⟨e1, e2⟩ | ⟨e1, e2, e3⟩
  · subst e1; subst e2; subst hw
    exact h'.2.2 (_, _) List.mem_cons_self
  · refine h'.2.2 (j, mj_rv B b u) (List.mem_cons_of_mem _ (List.mem_filter.mpr ⟨mj_lv_mem e2, ?_⟩))
    rw [mj_rv_cat]
    simp only [Bool.and_eq_true, Bool.not_eq_true', beq_eq_false_iff_ne, ne_eq, Bool.and_eq_false_iff]
    refine ⟨e1, ?_⟩
    by_cases hq : j + 1 = i
    · exact Or.inr fun z => e3 ⟨hq, z⟩
    · exact Or.inl hq
theorem mj_st2_get {loc : mj_L} {i j : Nat} {v w : Value} (h : (mj_st2 loc i v)[j]? = some (some w)) : j ≠ i + 1 ∧ (mj_st1 loc i v)[j]? = some (some w) := by
  unfold mj_st2 at h
  by_cases hj : j = i + 1
  · subst hj
    rw [List.getElem?_set] at h
    simp only [if_true] at h
    split at h <;> simp at h
  · rw [List.getElem?_set_ne (fun e => hj e.symm)] at h
    exact ⟨hj, h⟩
theorem mj_LR.st2 {B b : Nat} {loc : mj_L} {ls ls' : Array Slot} {nL i : Nat} {v w : Value} (h : mj_LR B b loc ls nL) (hw : w = mj_rv B b v)
    (h' : lv_has ls' nL ((i, w) :: (mj_lv B b loc).filter (fun q => !(q.1 == i) && (!(q.1 == i + 1) && !(q.1 + 1 == i && q.2.category == 2))))) : mj_LR B b (mj_st2 loc i v) ls' nL := by
  refine ⟨h'.1, ?_, h'.2.1, fun j u hu => ?_⟩
  · unfold mj_st2
    rw [List.length_set]
    exact (mj_st1_len loc i v).trans h.2.1
  obtain ⟨e0, hu⟩ := mj_st2_get hu
  rcases mj_st1_get hu with ⟨e1, e2⟩ | ⟨e1, e2, e3⟩
  · subst e1; subst e2; subst hw
    exact h'.2.2 (_, _) List.mem_cons_self
  · refine h'.2.2 (j, mj_rv B b u) (List.mem_cons_of_mem _ (List.mem_filter.mpr ⟨mj_lv_mem e2, ?_⟩))
    rw [mj_rv_cat]
    simp only [Bool.and_eq_true, Bool.not_eq_true', beq_eq_false_iff_ne, ne_eq, Bool.and_eq_false_iff]
    refine ⟨e1, e0, ?_⟩
    by_cases hq : j + 1 = i
    · exact Or.inr fun z => e3 ⟨hq, z⟩
    · exact Or.inl hq
/-- what a cell of the small machine says of the heap -/
def mj_at (B b : Nat) (D : va_G) (dA : Nat → ClassId) (s : State) (a : Nat) (e : mj_E) (H : Heap) : Prop := match e with
  | .inl (t, n, f) => (t = 100 → ∃ scr : Cell, H[a]? = some scr ∧ s.isArrayOf scr .int ∧ scr.vm ≠ .unknown ∧ scr.slots.size = n ∧ ∀ j : Nat, j < n → scr.slots[j]? = some (mj_rv B b (f j))) ∧ (t ≠ 100 → t ≤ 6 ∧ H[a]? = some (arrV (dA t) n (fun j => mj_rv B b (f j))))
  | .inr (ci, fs) => ci ≠ 99 → ∃ r : vw_C, mj_cl[ci]? = some r ∧ r.2.2 = fs.length ∧ t_OB a (D.1 ci) r.2.2 (D.2 ci) H (vp_V (fs.map (mj_rv B b)))
theorem mj_at.kept {B b : Nat} {D : va_G} {dA : Nat → ClassId} {s : State} {a : Nat} {e : mj_E} {H H1 : Heap} (h : mj_at B b D dA s a e H) (hq : H1[a]? = H[a]?) : mj_at B b D dA s a e H1 := by
  cases e with
  | inl x =>
    obtain ⟨t, n, f⟩ := x
    exact ⟨fun ht => by rw [hq]; exact h.1 ht, fun ht => by rw [hq]; exact h.2 ht⟩
  | inr o =>
    obtain ⟨ci, fs⟩ := o
    intro hc
    obtain ⟨r, h1, h2, h3⟩ := h hc
    exact ⟨r, h1, h2, h3.kept hq⟩
theorem mj_at.moved {B b : Nat} {D : va_G} {dA : Nat → ClassId} {s U : State} {a : Nat} {e : mj_E} {H : Heap} (hvm : s.vm.Alike U.vm) (h : mj_at B b D dA s a e H) : mj_at B b D dA U a e H := by
  cases e with
  | inl x =>
    obtain ⟨t, n, f⟩ := x
    refine ⟨fun ht => ?_, h.2⟩
    obtain ⟨scr, h1, h2, h3⟩ := h.1 ht
    exact ⟨scr, h1, State.isArrayOf_alike hvm h2, h3⟩
  | inr o => exact h
def mj_HR (B b : Nat) (D : va_G) (dA : Nat → ClassId) (s : State) (h : mj_H) (H : Heap) : Prop :=
  H.size + 1 = B + h.length ∧ (∃ (L : Nat) (xs : Nat → Value), h[0]? = some (.inl (100, L, xs))) ∧ ∀ (k : Nat) (e : mj_E), h[k]? = some e → mj_at B b D dA s (mj_ad B b k) e H
theorem mj_HR.moved {B b : Nat} {D : va_G} {dA : Nat → ClassId} {s U : State} {h : mj_H} {H : Heap} (hvm : s.vm.Alike U.vm) (hR : mj_HR B b D dA s h H) : mj_HR B b D dA U h H := ⟨hR.1, hR.2.1, fun k e he => (hR.2.2 k e he).moved hvm⟩
theorem mj_HR.lt {B b : Nat} {D : va_G} {dA : Nat → ClassId} {s : State} {h : mj_H} {H : Heap} (hb : b < B) (hR : mj_HR B b D dA s h H) {k : Nat} {e : mj_E} (he : h[k]? = some e) : mj_ad B b k < H.size := by
  have h1 := hR.1
  have h2 := (List.getElem?_eq_some_iff.mp he).1
  cases k with
  | zero => simp only [mj_ad]; omega
  | succ j => simp only [mj_ad]; omega
/-- a cell is written -/
theorem mj_HR.set {B b : Nat} {D : va_G} {dA : Nat → ClassId} {s : State} {h : mj_H} {H H1 : Heap} (hb : b < B) (hR : mj_HR B b D dA s h H) {k : Nat} (hk : k ≠ 0) {e : mj_E} (he : mj_at B b D dA s (mj_ad B b k) e H1) (hz : H1.size = H.size) (ho : ∀ q, q ≠ mj_ad B b k → H1[q]? = H[q]?) : mj_HR B b D dA s (h.set k e) H1 := by
  refine ⟨by rw [hz, List.length_set]; exact hR.1, ?_, fun j x hx => ?_⟩
  · obtain ⟨L, xs, h0⟩ := hR.2.1
    exact ⟨L, xs, by rw [List.getElem?_set_ne hk]; exact h0⟩
  · by_cases hj : j = k
    · subst hj
      rw [List.getElem?_set] at hx
      simp only [if_true] at hx
      split at hx
      · cases hx; exact he
      · cases hx
    · rw [List.getElem?_set_ne (fun q => hj q.symm)] at hx
      exact (hR.2.2 j x hx).kept (ho _ (fun q => hj (mj_ad_inj hb q)))
/-- a cell is made -/
theorem mj_HR.push {B b : Nat} {D : va_G} {dA : Nat → ClassId} {s : State} {h : mj_H} {H H1 : Heap} (hb : b < B) (hR : mj_HR B b D dA s h H) {e : mj_E} (he : mj_at B b D dA s H.size e H1) (hz : H1.size = H.size + 1) (ho : ∀ q, q < H.size → H1[q]? = H[q]?) : mj_HR B b D dA s (h ++ [e]) H1 ∧ mj_ad B b h.length = H.size := by
  obtain ⟨L, xs, h0⟩ := hR.2.1
  have hl : 0 < h.length := (List.getElem?_eq_some_iff.mp h0).1
  have h1 := hR.1
  have ha : mj_ad B b h.length = H.size := by
    cases hh : h.length with
    | zero => omega
    | succ j => simp only [mj_ad]; omega
  refine ⟨⟨by rw [hz, List.length_append]; simp; omega, ⟨L, xs, by rw [List.getElem?_append_left hl]; exact h0⟩, fun j x hx => ?_⟩, ha⟩
  by_cases hj : j < h.length
  · rw [List.getElem?_append_left hj] at hx
    exact (hR.2.2 j x hx).kept (ho _ (hR.lt hb hx))
  · rw [List.getElem?_append_right (by omega)] at hx
    have hz : j - h.length < 1 := (List.getElem?_eq_some_iff.mp hx).1
    have hj0 : j = h.length := by omega
    subst hj0
    rw [Nat.sub_self] at hx
    cases hx
    rw [ha]
    exact he
def mj_slot (e : mj_E) : Nat := match e with
  | .inl (_, n, _) => n
  | .inr (_, fs) => fs.length
def mj_sl (h : mj_H) : Nat := (h.map mj_slot).sum
theorem mj_sl_set {h : mj_H} {k : Nat} {e e' : mj_E} (he : h[k]? = some e) (hs : mj_slot e' = mj_slot e) : mj_sl (h.set k e') = mj_sl h := by
  induction h generalizing k with
  | nil => simp at he
  | cons x t ih =>
    cases k with
    | zero =>
      simp only [List.getElem?_cons_zero, Option.some.injEq] at he
      subst he
      simp [mj_sl, hs]
    | succ j =>
      simp only [List.getElem?_cons_succ] at he
      have h1 := ih he
      show mj_slot x + mj_sl (t.set j e') = mj_slot x + mj_sl t
      rw [h1]
theorem mj_sl_push (h : mj_H) (e : mj_E) : mj_sl (h ++ [e]) = mj_sl h + mj_slot e := by simp [mj_sl]
/-- the whole of it, within a method that began with n0 cells of s0 slots -/
def mj_Rel (B b : Nat) (D : va_G) (dA : Nat → ClassId) (s : State) (nL n0 s0 : Nat) (loc : mj_L) (h : mj_H) (ls : Array Slot) (H : Heap) (locs : List Loc) (cells slots : Nat) : Prop :=
  mj_HR B b D dA s h H ∧ mj_LR B b loc ls nL ∧ va_S (fun q => B ≤ q) s.heap H locs ∧ n0 + cells = h.length ∧ s0 + slots = mj_sl h
/-- what stays, through a method -/
def mj_Ctx (p : Program) (s : State) (m : MethodId) (args : Array Value) (meth : Method) (c : Code) (y : MethodName) (cc : ByteArray) (nL B b : Nat) (D : va_G) (dA : Nat → ClassId) : Prop :=
  p.tables.exec = Jvm.exec ∧ c.code = cc ∧ c.maxLocals = nL ∧ s.vm.findClass y.cls = some m.cls ∧ (∀ w ∈ lw_tbl, mj_mv w = true → w.before args s = true) ∧ va_K D mj_cl (mj_tys dA) s ∧ B ≤ s.heap.size ∧ b < B ∧ meth.locks = false ∧ (y.name = "<init>" → meth.name = "<init>")
end
section
/-! The steps: what an instruction was resolved to is checked by the kernel ('mj_ok'); then one step of the small machine is one of the machine. -/
def mj_len (ins : Instr) : Nat := match ins with
  | .bipush _ => 2
  | .sipush _ => 3
  | .ldc _ => 2
  | .ldc_w _ => 3
  | .ldc2_w _ => 3
  | .iload _ => 2
  | .lload _ => 2
  | .dload _ => 2
  | .aload _ => 2
  | .istore _ => 2
  | .lstore _ => 2
  | .dstore _ => 2
  | .astore _ => 2
  | .iinc _ _ => 3
  | .goto _ => 3
  | .ifCond _ _ => 3
  | .if_icmp _ _ => 3
  | .getfield _ => 3
  | .putfield _ => 3
  | .new _ => 3
  | .anewarray _ => 3
  | .newarray _ => 2
  | .multianewarray _ _ => 4
  | .invokevirtual _ => 3
  | .invokespecial _ => 3
  | .invokestatic _ => 3
  | _ => 1
def mj_w (r : Nat) (w : Jvm.Cond) : Bool := decide (lw_tbl[r]? = some w) && mj_mv w
theorem mj_w_of {r : Nat} {w : Jvm.Cond} (h : mj_w r w = true) : w ∈ lw_tbl ∧ mj_mv w = true := by
  unfold mj_w at h
  rw [Bool.and_eq_true, decide_eq_true_eq] at h
  exact ⟨List.mem_of_getElem? h.1, h.2⟩
def mj_link (own : String) (i : Nat) (q : vw_C) (k r4 r5 : Nat) : Bool := match r5 with
  | 0 => mj_w r4 (.fieldLink own i (q.2.1 k).1 (q.2.1 k).2.1 (q.2.1 k).2.2.1)
  | _ => mj_w r4 (.fieldLinkNest own i (q.2.1 k).1 (q.2.1 k).2.1 (q.2.1 k).2.2.1 "PolyRegisters")
def mj_okS (y : MethodName) (pc : Nat) (ins : Instr) (r1 r2 r3 r4 r5 : Nat) : Bool := match ins with
  | .goto off => decide ((pc : Int) + off = (r1 : Int))
  | .ifCond _ off => decide ((pc : Int) + off = (r1 : Int))
  | .if_icmp _ off => decide ((pc : Int) + off = (r1 : Int))
  | .bipush n => decide ((Int8.ofInt n).toInt32 = Int32.ofInt n)
  | .sipush n => decide ((Int16.ofInt n).toInt32 = Int32.ofInt n)
  | .ldc i => (match r2 with
    | 0 => mj_w r4 (.constant y.cls i (Int32.ofNat r1))
    | _ => mj_w r4 (.constantFloat y.cls i (UInt32.ofNat r1)))
  | .ldc_w i => (match r2 with
    | 0 => mj_w r4 (.constant y.cls i (Int32.ofNat r1))
    | _ => mj_w r4 (.constantFloat y.cls i (UInt32.ofNat r1)))
  | .ldc2_w i => (match r2 with
    | 0 => mj_w r4 (.constantLong y.cls i (Int64.ofNat r1))
    | _ => mj_w r4 (.constantDouble y.cls i (UInt64.ofNat r1)))
  | .getfield i => (match mj_cl[r1]? with
    | some q => decide (r2 < q.2.2) && mj_link y.cls i q r2 r4 r5
    | none => false)
  | .putfield i => (match mj_cl[r1]? with
    | some q => decide (r2 < q.2.2) && mj_link y.cls i q r2 r4 r5 && decide (mj_kd (mj_ft r1 r2) = r3) && (!(q.2.1 r2).2.2.2 || (decide (y.name = "<init>") && decide ((q.2.1 r2).1 = y.cls) && decide (r5 = 0)))
    | none => false)
  | .new i => (match mj_cl[r1]? with
    | some q => mj_w r4 (.classLink y.cls i q.1)
    | none => false)
  | .newarray t => decide (newarray.typeOf t = mj_tt r1) && mj_w r4 (.arrayClass (mj_tt r1))
  | .anewarray i => (match mj_el r1 with
    | some ci => (match mj_cl[ci]? with
      | some q => mj_w r4 (.classLink y.cls i q.1) && mj_w r5 (.arrayOver (.object q.1)) && decide (mj_tt r1 = .object q.1) && decide (3 ≤ r1) && decide (r1 ≤ 5)
      | none => false)
    | none => false)
  | .multianewarray i d => decide (d = 2) && mj_w r4 (.classLink y.cls i ("[" ++ (FieldType.array .long).toString)) && mj_w r5 (.arrayOver (.array .long)) && mj_w r2 (.arrayClass .long)
  | _ => true
def mj_ok (y : MethodName) (cc : ByteArray) (pc : Nat) (I : mj_I) : Bool := match I with
  | (.tableswitch d lo hi os, r1, _) => decide (decode cc pc = .ok (.tableswitch d lo hi os, r1))
  | (ins, r1, r2, r3, r4, r5) => decide (decode cc pc = .ok (ins, mj_len ins)) && mj_okS y pc ins r1 r2 r3 r4 r5
theorem mj_load1_of {loc : mj_L} {i : Nat} {v : Value} (h : mj_load1 loc i = some v) : ∃ x, v = .int x ∧ loc[i]? = some (some (.int x)) := by
  unfold mj_load1 at h
  split at h
  · rename_i x hx
    cases h
    exact ⟨x, rfl, hx⟩
  · cases h
theorem mj_loadL_of {loc : mj_L} {i : Nat} {v : Value} (h : mj_loadL loc i = some v) : ∃ x, v = .long x ∧ loc[i]? = some (some (.long x)) := by
  unfold mj_loadL at h
  split at h
  · rename_i x hx
    cases h
    exact ⟨x, rfl, hx⟩
  · cases h
theorem mj_loadD_of {loc : mj_L} {i : Nat} {v : Value} (h : mj_loadD loc i = some v) : ∃ x, v = .double x ∧ loc[i]? = some (some (.double x)) := by
  unfold mj_loadD at h
  split at h
  · rename_i x hx
    cases h
    exact ⟨x, rfl, hx⟩
  · cases h
theorem mj_loadA_of {loc : mj_L} {i : Nat} {v : Value} (h : mj_loadA loc i = some v) : ∃ x, v = .ref x ∧ loc[i]? = some (some (.ref x)) := by
  unfold mj_loadA at h
  split at h
  · rename_i x hx
    cases h
    exact ⟨x, rfl, hx⟩
  · cases h
section MJS
variable {p : Program} {l : Launch} {e : Env} {R : Room} {s : State} {m : MethodId} {args : Array Value} {below : List Frame} {meth : Method} {c : Code} {H : Heap} {locs : List Loc} {cells slots : Nat} {Q : State → Prop}
variable {y : MethodName} {cc : ByteArray} {nL B b n0 s0 : Nat} {D : va_G} {dA : Nat → ClassId} {pc : Nat} {loc : mj_L} {st : List Value} {h : mj_H} {ls : Array Slot}
theorem mj_ldcwF {ls : Array Slot} {rest : List Value} (hexec : p.tables.exec = Jvm.exec) (hb : c.code = cc) {own : String} {index : Nat} {v : UInt32} (hown : s.vm.findClass own = some m.cls) (hconst : (Jvm.Cond.constantFloat own index v).before args s = true) (hdg : decode cc pc = .ok (.ldc_w index, 3)) (k : W p l e R s m args below meth c H locs cells slots Q (F0 m (pc + 3) ls (.float v :: rest))) : W p l e R s m args below meth c H locs cells slots Q (F0 m pc ls rest) := by
  intro T hT X
  obtain ⟨t, a, b⟩ := k T hT X
  refine ⟨t, ?_, b⟩
  obtain ⟨k, cf, hk, hcf, hcp⟩ := Cond.constantFloat_spec hown hconst
  obtain ⟨k', hk', he⟩ := X.warmed.alike.2.2 _ _ hk
  jvm_step X.here [hexec, hb, hdg, ldc_w.wp_float (s := T) (f := F0 m pc ls rest) X.here.top hk' (by rw [he]; exact hcf) hcp]
  exact a
theorem mj_Rel.ofL {loc' : mj_L} {ls' : Array Slot} (hr : mj_Rel B b D dA s nL n0 s0 loc h ls H locs cells slots) (hl : mj_LR B b loc' ls' nL) : mj_Rel B b D dA s nL n0 s0 loc' h ls' H locs cells slots := ⟨hr.1, hl, hr.2.2⟩

theorem mj_s_iadd {r1 r2 r3 r4 r5 : Nat} (C : mj_Ctx p s m args meth c y cc nL B b D dA) (hd : decode cc pc = .ok (.iadd, mj_len (.iadd))) (ho : mj_okS y pc (.iadd) r1 r2 r3 r4 r5 = true) {pc' : Nat} {loc' : mj_L} {st' : List Value} {h' : mj_H} (hs : mj_step (.iadd) r1 r2 r3 mj_new pc loc st h = some (pc', loc', st', h')) (hr : mj_Rel B b D dA s nL n0 s0 loc h ls H locs cells slots)
    (hcl : h'.length ≤ n0 + R.cells) (hsl : mj_sl h' ≤ s0 + R.slots)
    (k : ∀ (ls' : Array Slot) (H' : Heap) (locs' : List Loc) (cells' slots' : Nat), mj_Rel B b D dA s nL n0 s0 loc' h' ls' H' locs' cells' slots' → W p l e R s m args below meth c H' locs' cells' slots' Q (F0 m pc' ls' (st'.map (mj_rv B b)))) :
    W p l e R s m args below meth c H locs cells slots Q (F0 m pc ls (st.map (mj_rv B b))) := by
  obtain ⟨hx, hb, hml, hown, hts, hK, hB, hbB, hlk, hin⟩ := C
  simp only [mj_step] at hs
  split at hs
  · cases hs
    exact lv_iadd hx hb hd (k _ _ _ _ _ hr)
  · cases hs
theorem mj_s_isub {r1 r2 r3 r4 r5 : Nat} (C : mj_Ctx p s m args meth c y cc nL B b D dA) (hd : decode cc pc = .ok (.isub, mj_len (.isub))) (ho : mj_okS y pc (.isub) r1 r2 r3 r4 r5 = true) {pc' : Nat} {loc' : mj_L} {st' : List Value} {h' : mj_H} (hs : mj_step (.isub) r1 r2 r3 mj_new pc loc st h = some (pc', loc', st', h')) (hr : mj_Rel B b D dA s nL n0 s0 loc h ls H locs cells slots)
    (hcl : h'.length ≤ n0 + R.cells) (hsl : mj_sl h' ≤ s0 + R.slots)
    (k : ∀ (ls' : Array Slot) (H' : Heap) (locs' : List Loc) (cells' slots' : Nat), mj_Rel B b D dA s nL n0 s0 loc' h' ls' H' locs' cells' slots' → W p l e R s m args below meth c H' locs' cells' slots' Q (F0 m pc' ls' (st'.map (mj_rv B b)))) :
    W p l e R s m args below meth c H locs cells slots Q (F0 m pc ls (st.map (mj_rv B b))) := by
  obtain ⟨hx, hb, hml, hown, hts, hK, hB, hbB, hlk, hin⟩ := C
  simp only [mj_step] at hs
  split at hs
  · cases hs
    exact lv_isub hx hb hd (k _ _ _ _ _ hr)
  · cases hs
theorem mj_s_imul {r1 r2 r3 r4 r5 : Nat} (C : mj_Ctx p s m args meth c y cc nL B b D dA) (hd : decode cc pc = .ok (.imul, mj_len (.imul))) (ho : mj_okS y pc (.imul) r1 r2 r3 r4 r5 = true) {pc' : Nat} {loc' : mj_L} {st' : List Value} {h' : mj_H} (hs : mj_step (.imul) r1 r2 r3 mj_new pc loc st h = some (pc', loc', st', h')) (hr : mj_Rel B b D dA s nL n0 s0 loc h ls H locs cells slots)
    (hcl : h'.length ≤ n0 + R.cells) (hsl : mj_sl h' ≤ s0 + R.slots)
    (k : ∀ (ls' : Array Slot) (H' : Heap) (locs' : List Loc) (cells' slots' : Nat), mj_Rel B b D dA s nL n0 s0 loc' h' ls' H' locs' cells' slots' → W p l e R s m args below meth c H' locs' cells' slots' Q (F0 m pc' ls' (st'.map (mj_rv B b)))) :
    W p l e R s m args below meth c H locs cells slots Q (F0 m pc ls (st.map (mj_rv B b))) := by
  obtain ⟨hx, hb, hml, hown, hts, hK, hB, hbB, hlk, hin⟩ := C
  simp only [mj_step] at hs
  split at hs
  · cases hs
    exact lv_imul hx hb hd (k _ _ _ _ _ hr)
  · cases hs
theorem mj_s_ineg {r1 r2 r3 r4 r5 : Nat} (C : mj_Ctx p s m args meth c y cc nL B b D dA) (hd : decode cc pc = .ok (.ineg, mj_len (.ineg))) (ho : mj_okS y pc (.ineg) r1 r2 r3 r4 r5 = true) {pc' : Nat} {loc' : mj_L} {st' : List Value} {h' : mj_H} (hs : mj_step (.ineg) r1 r2 r3 mj_new pc loc st h = some (pc', loc', st', h')) (hr : mj_Rel B b D dA s nL n0 s0 loc h ls H locs cells slots)
    (hcl : h'.length ≤ n0 + R.cells) (hsl : mj_sl h' ≤ s0 + R.slots)
    (k : ∀ (ls' : Array Slot) (H' : Heap) (locs' : List Loc) (cells' slots' : Nat), mj_Rel B b D dA s nL n0 s0 loc' h' ls' H' locs' cells' slots' → W p l e R s m args below meth c H' locs' cells' slots' Q (F0 m pc' ls' (st'.map (mj_rv B b)))) :
    W p l e R s m args below meth c H locs cells slots Q (F0 m pc ls (st.map (mj_rv B b))) := by
  obtain ⟨hx, hb, hml, hown, hts, hK, hB, hbB, hlk, hin⟩ := C
  simp only [mj_step] at hs
  split at hs
  · cases hs
    exact lv_ineg hx hb hd (k _ _ _ _ _ hr)
  · cases hs
theorem mj_s_iand {r1 r2 r3 r4 r5 : Nat} (C : mj_Ctx p s m args meth c y cc nL B b D dA) (hd : decode cc pc = .ok (.iand, mj_len (.iand))) (ho : mj_okS y pc (.iand) r1 r2 r3 r4 r5 = true) {pc' : Nat} {loc' : mj_L} {st' : List Value} {h' : mj_H} (hs : mj_step (.iand) r1 r2 r3 mj_new pc loc st h = some (pc', loc', st', h')) (hr : mj_Rel B b D dA s nL n0 s0 loc h ls H locs cells slots)
    (hcl : h'.length ≤ n0 + R.cells) (hsl : mj_sl h' ≤ s0 + R.slots)
    (k : ∀ (ls' : Array Slot) (H' : Heap) (locs' : List Loc) (cells' slots' : Nat), mj_Rel B b D dA s nL n0 s0 loc' h' ls' H' locs' cells' slots' → W p l e R s m args below meth c H' locs' cells' slots' Q (F0 m pc' ls' (st'.map (mj_rv B b)))) :
    W p l e R s m args below meth c H locs cells slots Q (F0 m pc ls (st.map (mj_rv B b))) := by
  obtain ⟨hx, hb, hml, hown, hts, hK, hB, hbB, hlk, hin⟩ := C
  simp only [mj_step] at hs
  split at hs
  · cases hs
    exact lv_iand hx hb hd (k _ _ _ _ _ hr)
  · cases hs
theorem mj_s_ishr {r1 r2 r3 r4 r5 : Nat} (C : mj_Ctx p s m args meth c y cc nL B b D dA) (hd : decode cc pc = .ok (.ishr, mj_len (.ishr))) (ho : mj_okS y pc (.ishr) r1 r2 r3 r4 r5 = true) {pc' : Nat} {loc' : mj_L} {st' : List Value} {h' : mj_H} (hs : mj_step (.ishr) r1 r2 r3 mj_new pc loc st h = some (pc', loc', st', h')) (hr : mj_Rel B b D dA s nL n0 s0 loc h ls H locs cells slots)
    (hcl : h'.length ≤ n0 + R.cells) (hsl : mj_sl h' ≤ s0 + R.slots)
    (k : ∀ (ls' : Array Slot) (H' : Heap) (locs' : List Loc) (cells' slots' : Nat), mj_Rel B b D dA s nL n0 s0 loc' h' ls' H' locs' cells' slots' → W p l e R s m args below meth c H' locs' cells' slots' Q (F0 m pc' ls' (st'.map (mj_rv B b)))) :
    W p l e R s m args below meth c H locs cells slots Q (F0 m pc ls (st.map (mj_rv B b))) := by
  obtain ⟨hx, hb, hml, hown, hts, hK, hB, hbB, hlk, hin⟩ := C
  simp only [mj_step] at hs
  split at hs
  · cases hs
    exact lv_ishr hx hb hd (k _ _ _ _ _ hr)
  · cases hs
theorem mj_s_iushr {r1 r2 r3 r4 r5 : Nat} (C : mj_Ctx p s m args meth c y cc nL B b D dA) (hd : decode cc pc = .ok (.iushr, mj_len (.iushr))) (ho : mj_okS y pc (.iushr) r1 r2 r3 r4 r5 = true) {pc' : Nat} {loc' : mj_L} {st' : List Value} {h' : mj_H} (hs : mj_step (.iushr) r1 r2 r3 mj_new pc loc st h = some (pc', loc', st', h')) (hr : mj_Rel B b D dA s nL n0 s0 loc h ls H locs cells slots)
    (hcl : h'.length ≤ n0 + R.cells) (hsl : mj_sl h' ≤ s0 + R.slots)
    (k : ∀ (ls' : Array Slot) (H' : Heap) (locs' : List Loc) (cells' slots' : Nat), mj_Rel B b D dA s nL n0 s0 loc' h' ls' H' locs' cells' slots' → W p l e R s m args below meth c H' locs' cells' slots' Q (F0 m pc' ls' (st'.map (mj_rv B b)))) :
    W p l e R s m args below meth c H locs cells slots Q (F0 m pc ls (st.map (mj_rv B b))) := by
  obtain ⟨hx, hb, hml, hown, hts, hK, hB, hbB, hlk, hin⟩ := C
  simp only [mj_step] at hs
  split at hs
  · cases hs
    exact lv_iushr hx hb hd rfl (k _ _ _ _ _ hr)
  · cases hs
theorem mj_s_ladd {r1 r2 r3 r4 r5 : Nat} (C : mj_Ctx p s m args meth c y cc nL B b D dA) (hd : decode cc pc = .ok (.ladd, mj_len (.ladd))) (ho : mj_okS y pc (.ladd) r1 r2 r3 r4 r5 = true) {pc' : Nat} {loc' : mj_L} {st' : List Value} {h' : mj_H} (hs : mj_step (.ladd) r1 r2 r3 mj_new pc loc st h = some (pc', loc', st', h')) (hr : mj_Rel B b D dA s nL n0 s0 loc h ls H locs cells slots)
    (hcl : h'.length ≤ n0 + R.cells) (hsl : mj_sl h' ≤ s0 + R.slots)
    (k : ∀ (ls' : Array Slot) (H' : Heap) (locs' : List Loc) (cells' slots' : Nat), mj_Rel B b D dA s nL n0 s0 loc' h' ls' H' locs' cells' slots' → W p l e R s m args below meth c H' locs' cells' slots' Q (F0 m pc' ls' (st'.map (mj_rv B b)))) :
    W p l e R s m args below meth c H locs cells slots Q (F0 m pc ls (st.map (mj_rv B b))) := by
  obtain ⟨hx, hb, hml, hown, hts, hK, hB, hbB, hlk, hin⟩ := C
  simp only [mj_step] at hs
  split at hs
  · cases hs
    exact lv_ladd hx hb hd (k _ _ _ _ _ hr)
  · cases hs
theorem mj_s_lsub {r1 r2 r3 r4 r5 : Nat} (C : mj_Ctx p s m args meth c y cc nL B b D dA) (hd : decode cc pc = .ok (.lsub, mj_len (.lsub))) (ho : mj_okS y pc (.lsub) r1 r2 r3 r4 r5 = true) {pc' : Nat} {loc' : mj_L} {st' : List Value} {h' : mj_H} (hs : mj_step (.lsub) r1 r2 r3 mj_new pc loc st h = some (pc', loc', st', h')) (hr : mj_Rel B b D dA s nL n0 s0 loc h ls H locs cells slots)
    (hcl : h'.length ≤ n0 + R.cells) (hsl : mj_sl h' ≤ s0 + R.slots)
    (k : ∀ (ls' : Array Slot) (H' : Heap) (locs' : List Loc) (cells' slots' : Nat), mj_Rel B b D dA s nL n0 s0 loc' h' ls' H' locs' cells' slots' → W p l e R s m args below meth c H' locs' cells' slots' Q (F0 m pc' ls' (st'.map (mj_rv B b)))) :
    W p l e R s m args below meth c H locs cells slots Q (F0 m pc ls (st.map (mj_rv B b))) := by
  obtain ⟨hx, hb, hml, hown, hts, hK, hB, hbB, hlk, hin⟩ := C
  simp only [mj_step] at hs
  split at hs
  · cases hs
    exact lv_lsub hx hb hd (k _ _ _ _ _ hr)
  · cases hs
theorem mj_s_lmul {r1 r2 r3 r4 r5 : Nat} (C : mj_Ctx p s m args meth c y cc nL B b D dA) (hd : decode cc pc = .ok (.lmul, mj_len (.lmul))) (ho : mj_okS y pc (.lmul) r1 r2 r3 r4 r5 = true) {pc' : Nat} {loc' : mj_L} {st' : List Value} {h' : mj_H} (hs : mj_step (.lmul) r1 r2 r3 mj_new pc loc st h = some (pc', loc', st', h')) (hr : mj_Rel B b D dA s nL n0 s0 loc h ls H locs cells slots)
    (hcl : h'.length ≤ n0 + R.cells) (hsl : mj_sl h' ≤ s0 + R.slots)
    (k : ∀ (ls' : Array Slot) (H' : Heap) (locs' : List Loc) (cells' slots' : Nat), mj_Rel B b D dA s nL n0 s0 loc' h' ls' H' locs' cells' slots' → W p l e R s m args below meth c H' locs' cells' slots' Q (F0 m pc' ls' (st'.map (mj_rv B b)))) :
    W p l e R s m args below meth c H locs cells slots Q (F0 m pc ls (st.map (mj_rv B b))) := by
  obtain ⟨hx, hb, hml, hown, hts, hK, hB, hbB, hlk, hin⟩ := C
  simp only [mj_step] at hs
  split at hs
  · cases hs
    exact lv_lmul hx hb hd (k _ _ _ _ _ hr)
  · cases hs
theorem mj_s_lneg {r1 r2 r3 r4 r5 : Nat} (C : mj_Ctx p s m args meth c y cc nL B b D dA) (hd : decode cc pc = .ok (.lneg, mj_len (.lneg))) (ho : mj_okS y pc (.lneg) r1 r2 r3 r4 r5 = true) {pc' : Nat} {loc' : mj_L} {st' : List Value} {h' : mj_H} (hs : mj_step (.lneg) r1 r2 r3 mj_new pc loc st h = some (pc', loc', st', h')) (hr : mj_Rel B b D dA s nL n0 s0 loc h ls H locs cells slots)
    (hcl : h'.length ≤ n0 + R.cells) (hsl : mj_sl h' ≤ s0 + R.slots)
    (k : ∀ (ls' : Array Slot) (H' : Heap) (locs' : List Loc) (cells' slots' : Nat), mj_Rel B b D dA s nL n0 s0 loc' h' ls' H' locs' cells' slots' → W p l e R s m args below meth c H' locs' cells' slots' Q (F0 m pc' ls' (st'.map (mj_rv B b)))) :
    W p l e R s m args below meth c H locs cells slots Q (F0 m pc ls (st.map (mj_rv B b))) := by
  obtain ⟨hx, hb, hml, hown, hts, hK, hB, hbB, hlk, hin⟩ := C
  simp only [mj_step] at hs
  split at hs
  · cases hs
    exact lv_lneg hx hb hd (k _ _ _ _ _ hr)
  · cases hs
theorem mj_s_land {r1 r2 r3 r4 r5 : Nat} (C : mj_Ctx p s m args meth c y cc nL B b D dA) (hd : decode cc pc = .ok (.land, mj_len (.land))) (ho : mj_okS y pc (.land) r1 r2 r3 r4 r5 = true) {pc' : Nat} {loc' : mj_L} {st' : List Value} {h' : mj_H} (hs : mj_step (.land) r1 r2 r3 mj_new pc loc st h = some (pc', loc', st', h')) (hr : mj_Rel B b D dA s nL n0 s0 loc h ls H locs cells slots)
    (hcl : h'.length ≤ n0 + R.cells) (hsl : mj_sl h' ≤ s0 + R.slots)
    (k : ∀ (ls' : Array Slot) (H' : Heap) (locs' : List Loc) (cells' slots' : Nat), mj_Rel B b D dA s nL n0 s0 loc' h' ls' H' locs' cells' slots' → W p l e R s m args below meth c H' locs' cells' slots' Q (F0 m pc' ls' (st'.map (mj_rv B b)))) :
    W p l e R s m args below meth c H locs cells slots Q (F0 m pc ls (st.map (mj_rv B b))) := by
  obtain ⟨hx, hb, hml, hown, hts, hK, hB, hbB, hlk, hin⟩ := C
  simp only [mj_step] at hs
  split at hs
  · cases hs
    exact lv_land hx hb hd (k _ _ _ _ _ hr)
  · cases hs
theorem mj_s_lor {r1 r2 r3 r4 r5 : Nat} (C : mj_Ctx p s m args meth c y cc nL B b D dA) (hd : decode cc pc = .ok (.lor, mj_len (.lor))) (ho : mj_okS y pc (.lor) r1 r2 r3 r4 r5 = true) {pc' : Nat} {loc' : mj_L} {st' : List Value} {h' : mj_H} (hs : mj_step (.lor) r1 r2 r3 mj_new pc loc st h = some (pc', loc', st', h')) (hr : mj_Rel B b D dA s nL n0 s0 loc h ls H locs cells slots)
    (hcl : h'.length ≤ n0 + R.cells) (hsl : mj_sl h' ≤ s0 + R.slots)
    (k : ∀ (ls' : Array Slot) (H' : Heap) (locs' : List Loc) (cells' slots' : Nat), mj_Rel B b D dA s nL n0 s0 loc' h' ls' H' locs' cells' slots' → W p l e R s m args below meth c H' locs' cells' slots' Q (F0 m pc' ls' (st'.map (mj_rv B b)))) :
    W p l e R s m args below meth c H locs cells slots Q (F0 m pc ls (st.map (mj_rv B b))) := by
  obtain ⟨hx, hb, hml, hown, hts, hK, hB, hbB, hlk, hin⟩ := C
  simp only [mj_step] at hs
  split at hs
  · cases hs
    exact lv_lor hx hb hd (k _ _ _ _ _ hr)
  · cases hs
theorem mj_s_lshl {r1 r2 r3 r4 r5 : Nat} (C : mj_Ctx p s m args meth c y cc nL B b D dA) (hd : decode cc pc = .ok (.lshl, mj_len (.lshl))) (ho : mj_okS y pc (.lshl) r1 r2 r3 r4 r5 = true) {pc' : Nat} {loc' : mj_L} {st' : List Value} {h' : mj_H} (hs : mj_step (.lshl) r1 r2 r3 mj_new pc loc st h = some (pc', loc', st', h')) (hr : mj_Rel B b D dA s nL n0 s0 loc h ls H locs cells slots)
    (hcl : h'.length ≤ n0 + R.cells) (hsl : mj_sl h' ≤ s0 + R.slots)
    (k : ∀ (ls' : Array Slot) (H' : Heap) (locs' : List Loc) (cells' slots' : Nat), mj_Rel B b D dA s nL n0 s0 loc' h' ls' H' locs' cells' slots' → W p l e R s m args below meth c H' locs' cells' slots' Q (F0 m pc' ls' (st'.map (mj_rv B b)))) :
    W p l e R s m args below meth c H locs cells slots Q (F0 m pc ls (st.map (mj_rv B b))) := by
  obtain ⟨hx, hb, hml, hown, hts, hK, hB, hbB, hlk, hin⟩ := C
  simp only [mj_step] at hs
  split at hs
  · cases hs
    exact lv_lshl hx hb hd rfl (k _ _ _ _ _ hr)
  · cases hs
theorem mj_s_lcmp {r1 r2 r3 r4 r5 : Nat} (C : mj_Ctx p s m args meth c y cc nL B b D dA) (hd : decode cc pc = .ok (.lcmp, mj_len (.lcmp))) (ho : mj_okS y pc (.lcmp) r1 r2 r3 r4 r5 = true) {pc' : Nat} {loc' : mj_L} {st' : List Value} {h' : mj_H} (hs : mj_step (.lcmp) r1 r2 r3 mj_new pc loc st h = some (pc', loc', st', h')) (hr : mj_Rel B b D dA s nL n0 s0 loc h ls H locs cells slots)
    (hcl : h'.length ≤ n0 + R.cells) (hsl : mj_sl h' ≤ s0 + R.slots)
    (k : ∀ (ls' : Array Slot) (H' : Heap) (locs' : List Loc) (cells' slots' : Nat), mj_Rel B b D dA s nL n0 s0 loc' h' ls' H' locs' cells' slots' → W p l e R s m args below meth c H' locs' cells' slots' Q (F0 m pc' ls' (st'.map (mj_rv B b)))) :
    W p l e R s m args below meth c H locs cells slots Q (F0 m pc ls (st.map (mj_rv B b))) := by
  obtain ⟨hx, hb, hml, hown, hts, hK, hB, hbB, hlk, hin⟩ := C
  simp only [mj_step] at hs
  split at hs
  · cases hs
    exact W.lcmp hx hb hd (k _ _ _ _ _ hr)
  · cases hs
theorem mj_s_i2l {r1 r2 r3 r4 r5 : Nat} (C : mj_Ctx p s m args meth c y cc nL B b D dA) (hd : decode cc pc = .ok (.i2l, mj_len (.i2l))) (ho : mj_okS y pc (.i2l) r1 r2 r3 r4 r5 = true) {pc' : Nat} {loc' : mj_L} {st' : List Value} {h' : mj_H} (hs : mj_step (.i2l) r1 r2 r3 mj_new pc loc st h = some (pc', loc', st', h')) (hr : mj_Rel B b D dA s nL n0 s0 loc h ls H locs cells slots)
    (hcl : h'.length ≤ n0 + R.cells) (hsl : mj_sl h' ≤ s0 + R.slots)
    (k : ∀ (ls' : Array Slot) (H' : Heap) (locs' : List Loc) (cells' slots' : Nat), mj_Rel B b D dA s nL n0 s0 loc' h' ls' H' locs' cells' slots' → W p l e R s m args below meth c H' locs' cells' slots' Q (F0 m pc' ls' (st'.map (mj_rv B b)))) :
    W p l e R s m args below meth c H locs cells slots Q (F0 m pc ls (st.map (mj_rv B b))) := by
  obtain ⟨hx, hb, hml, hown, hts, hK, hB, hbB, hlk, hin⟩ := C
  simp only [mj_step] at hs
  split at hs
  · cases hs
    exact lv_i2l hx hb hd rfl (k _ _ _ _ _ hr)
  · cases hs
theorem mj_s_l2i {r1 r2 r3 r4 r5 : Nat} (C : mj_Ctx p s m args meth c y cc nL B b D dA) (hd : decode cc pc = .ok (.l2i, mj_len (.l2i))) (ho : mj_okS y pc (.l2i) r1 r2 r3 r4 r5 = true) {pc' : Nat} {loc' : mj_L} {st' : List Value} {h' : mj_H} (hs : mj_step (.l2i) r1 r2 r3 mj_new pc loc st h = some (pc', loc', st', h')) (hr : mj_Rel B b D dA s nL n0 s0 loc h ls H locs cells slots)
    (hcl : h'.length ≤ n0 + R.cells) (hsl : mj_sl h' ≤ s0 + R.slots)
    (k : ∀ (ls' : Array Slot) (H' : Heap) (locs' : List Loc) (cells' slots' : Nat), mj_Rel B b D dA s nL n0 s0 loc' h' ls' H' locs' cells' slots' → W p l e R s m args below meth c H' locs' cells' slots' Q (F0 m pc' ls' (st'.map (mj_rv B b)))) :
    W p l e R s m args below meth c H locs cells slots Q (F0 m pc ls (st.map (mj_rv B b))) := by
  obtain ⟨hx, hb, hml, hown, hts, hK, hB, hbB, hlk, hin⟩ := C
  simp only [mj_step] at hs
  split at hs
  · cases hs
    exact lv_l2i hx hb hd rfl (k _ _ _ _ _ hr)
  · cases hs
theorem mj_s_i2b {r1 r2 r3 r4 r5 : Nat} (C : mj_Ctx p s m args meth c y cc nL B b D dA) (hd : decode cc pc = .ok (.i2b, mj_len (.i2b))) (ho : mj_okS y pc (.i2b) r1 r2 r3 r4 r5 = true) {pc' : Nat} {loc' : mj_L} {st' : List Value} {h' : mj_H} (hs : mj_step (.i2b) r1 r2 r3 mj_new pc loc st h = some (pc', loc', st', h')) (hr : mj_Rel B b D dA s nL n0 s0 loc h ls H locs cells slots)
    (hcl : h'.length ≤ n0 + R.cells) (hsl : mj_sl h' ≤ s0 + R.slots)
    (k : ∀ (ls' : Array Slot) (H' : Heap) (locs' : List Loc) (cells' slots' : Nat), mj_Rel B b D dA s nL n0 s0 loc' h' ls' H' locs' cells' slots' → W p l e R s m args below meth c H' locs' cells' slots' Q (F0 m pc' ls' (st'.map (mj_rv B b)))) :
    W p l e R s m args below meth c H locs cells slots Q (F0 m pc ls (st.map (mj_rv B b))) := by
  obtain ⟨hx, hb, hml, hown, hts, hK, hB, hbB, hlk, hin⟩ := C
  simp only [mj_step] at hs
  split at hs
  · cases hs
    exact lv_i2b hx hb hd rfl (k _ _ _ _ _ hr)
  · cases hs
theorem mj_s_i2f {r1 r2 r3 r4 r5 : Nat} (C : mj_Ctx p s m args meth c y cc nL B b D dA) (hd : decode cc pc = .ok (.i2f, mj_len (.i2f))) (ho : mj_okS y pc (.i2f) r1 r2 r3 r4 r5 = true) {pc' : Nat} {loc' : mj_L} {st' : List Value} {h' : mj_H} (hs : mj_step (.i2f) r1 r2 r3 mj_new pc loc st h = some (pc', loc', st', h')) (hr : mj_Rel B b D dA s nL n0 s0 loc h ls H locs cells slots)
    (hcl : h'.length ≤ n0 + R.cells) (hsl : mj_sl h' ≤ s0 + R.slots)
    (k : ∀ (ls' : Array Slot) (H' : Heap) (locs' : List Loc) (cells' slots' : Nat), mj_Rel B b D dA s nL n0 s0 loc' h' ls' H' locs' cells' slots' → W p l e R s m args below meth c H' locs' cells' slots' Q (F0 m pc' ls' (st'.map (mj_rv B b)))) :
    W p l e R s m args below meth c H locs cells slots Q (F0 m pc ls (st.map (mj_rv B b))) := by
  obtain ⟨hx, hb, hml, hown, hts, hK, hB, hbB, hlk, hin⟩ := C
  simp only [mj_step] at hs
  split at hs
  · cases hs
    exact lv_i2f hx hb hd (k _ _ _ _ _ hr)
  · cases hs
theorem mj_s_i2d {r1 r2 r3 r4 r5 : Nat} (C : mj_Ctx p s m args meth c y cc nL B b D dA) (hd : decode cc pc = .ok (.i2d, mj_len (.i2d))) (ho : mj_okS y pc (.i2d) r1 r2 r3 r4 r5 = true) {pc' : Nat} {loc' : mj_L} {st' : List Value} {h' : mj_H} (hs : mj_step (.i2d) r1 r2 r3 mj_new pc loc st h = some (pc', loc', st', h')) (hr : mj_Rel B b D dA s nL n0 s0 loc h ls H locs cells slots)
    (hcl : h'.length ≤ n0 + R.cells) (hsl : mj_sl h' ≤ s0 + R.slots)
    (k : ∀ (ls' : Array Slot) (H' : Heap) (locs' : List Loc) (cells' slots' : Nat), mj_Rel B b D dA s nL n0 s0 loc' h' ls' H' locs' cells' slots' → W p l e R s m args below meth c H' locs' cells' slots' Q (F0 m pc' ls' (st'.map (mj_rv B b)))) :
    W p l e R s m args below meth c H locs cells slots Q (F0 m pc ls (st.map (mj_rv B b))) := by
  obtain ⟨hx, hb, hml, hown, hts, hK, hB, hbB, hlk, hin⟩ := C
  simp only [mj_step] at hs
  split at hs
  · cases hs
    exact lv_i2d hx hb hd (k _ _ _ _ _ hr)
  · cases hs
theorem mj_s_dcmp {r1 r2 r3 r4 r5 : Nat} {op : CmpOp} (C : mj_Ctx p s m args meth c y cc nL B b D dA) (hd : decode cc pc = .ok (.dcmp op, mj_len (.dcmp op))) (ho : mj_okS y pc (.dcmp op) r1 r2 r3 r4 r5 = true) {pc' : Nat} {loc' : mj_L} {st' : List Value} {h' : mj_H} (hs : mj_step (.dcmp op) r1 r2 r3 mj_new pc loc st h = some (pc', loc', st', h')) (hr : mj_Rel B b D dA s nL n0 s0 loc h ls H locs cells slots)
    (hcl : h'.length ≤ n0 + R.cells) (hsl : mj_sl h' ≤ s0 + R.slots)
    (k : ∀ (ls' : Array Slot) (H' : Heap) (locs' : List Loc) (cells' slots' : Nat), mj_Rel B b D dA s nL n0 s0 loc' h' ls' H' locs' cells' slots' → W p l e R s m args below meth c H' locs' cells' slots' Q (F0 m pc' ls' (st'.map (mj_rv B b)))) :
    W p l e R s m args below meth c H locs cells slots Q (F0 m pc ls (st.map (mj_rv B b))) := by
  obtain ⟨hx, hb, hml, hown, hts, hK, hB, hbB, hlk, hin⟩ := C
  simp only [mj_step] at hs
  split at hs
  · cases hs
    exact lv_dcmp hx hb hd (k _ _ _ _ _ hr)
  · cases hs
theorem mj_s_idiv {r1 r2 r3 r4 r5 : Nat} (C : mj_Ctx p s m args meth c y cc nL B b D dA) (hd : decode cc pc = .ok (.idiv, mj_len (.idiv))) (ho : mj_okS y pc (.idiv) r1 r2 r3 r4 r5 = true) {pc' : Nat} {loc' : mj_L} {st' : List Value} {h' : mj_H} (hs : mj_step (.idiv) r1 r2 r3 mj_new pc loc st h = some (pc', loc', st', h')) (hr : mj_Rel B b D dA s nL n0 s0 loc h ls H locs cells slots)
    (hcl : h'.length ≤ n0 + R.cells) (hsl : mj_sl h' ≤ s0 + R.slots)
    (k : ∀ (ls' : Array Slot) (H' : Heap) (locs' : List Loc) (cells' slots' : Nat), mj_Rel B b D dA s nL n0 s0 loc' h' ls' H' locs' cells' slots' → W p l e R s m args below meth c H' locs' cells' slots' Q (F0 m pc' ls' (st'.map (mj_rv B b)))) :
    W p l e R s m args below meth c H locs cells slots Q (F0 m pc ls (st.map (mj_rv B b))) := by
  obtain ⟨hx, hb, hml, hown, hts, hK, hB, hbB, hlk, hin⟩ := C
  simp only [mj_step] at hs
  split at hs
  · split at hs
    · cases hs
    · rename_i h0
      cases hs
      exact lv_idiv hx hb hd h0 (k _ _ _ _ _ hr)
  · cases hs
theorem mj_s_irem {r1 r2 r3 r4 r5 : Nat} (C : mj_Ctx p s m args meth c y cc nL B b D dA) (hd : decode cc pc = .ok (.irem, mj_len (.irem))) (ho : mj_okS y pc (.irem) r1 r2 r3 r4 r5 = true) {pc' : Nat} {loc' : mj_L} {st' : List Value} {h' : mj_H} (hs : mj_step (.irem) r1 r2 r3 mj_new pc loc st h = some (pc', loc', st', h')) (hr : mj_Rel B b D dA s nL n0 s0 loc h ls H locs cells slots)
    (hcl : h'.length ≤ n0 + R.cells) (hsl : mj_sl h' ≤ s0 + R.slots)
    (k : ∀ (ls' : Array Slot) (H' : Heap) (locs' : List Loc) (cells' slots' : Nat), mj_Rel B b D dA s nL n0 s0 loc' h' ls' H' locs' cells' slots' → W p l e R s m args below meth c H' locs' cells' slots' Q (F0 m pc' ls' (st'.map (mj_rv B b)))) :
    W p l e R s m args below meth c H locs cells slots Q (F0 m pc ls (st.map (mj_rv B b))) := by
  obtain ⟨hx, hb, hml, hown, hts, hK, hB, hbB, hlk, hin⟩ := C
  simp only [mj_step] at hs
  split at hs
  · split at hs
    · cases hs
    · rename_i h0
      cases hs
      exact lv_irem hx hb hd h0 (k _ _ _ _ _ hr)
  · cases hs
theorem mj_s_ldiv {r1 r2 r3 r4 r5 : Nat} (C : mj_Ctx p s m args meth c y cc nL B b D dA) (hd : decode cc pc = .ok (.ldiv, mj_len (.ldiv))) (ho : mj_okS y pc (.ldiv) r1 r2 r3 r4 r5 = true) {pc' : Nat} {loc' : mj_L} {st' : List Value} {h' : mj_H} (hs : mj_step (.ldiv) r1 r2 r3 mj_new pc loc st h = some (pc', loc', st', h')) (hr : mj_Rel B b D dA s nL n0 s0 loc h ls H locs cells slots)
    (hcl : h'.length ≤ n0 + R.cells) (hsl : mj_sl h' ≤ s0 + R.slots)
    (k : ∀ (ls' : Array Slot) (H' : Heap) (locs' : List Loc) (cells' slots' : Nat), mj_Rel B b D dA s nL n0 s0 loc' h' ls' H' locs' cells' slots' → W p l e R s m args below meth c H' locs' cells' slots' Q (F0 m pc' ls' (st'.map (mj_rv B b)))) :
    W p l e R s m args below meth c H locs cells slots Q (F0 m pc ls (st.map (mj_rv B b))) := by
  obtain ⟨hx, hb, hml, hown, hts, hK, hB, hbB, hlk, hin⟩ := C
  simp only [mj_step] at hs
  split at hs
  · split at hs
    · cases hs
    · rename_i h0
      cases hs
      exact lv_ldiv hx hb hd h0 (k _ _ _ _ _ hr)
  · cases hs
theorem mj_s_lrem {r1 r2 r3 r4 r5 : Nat} (C : mj_Ctx p s m args meth c y cc nL B b D dA) (hd : decode cc pc = .ok (.lrem, mj_len (.lrem))) (ho : mj_okS y pc (.lrem) r1 r2 r3 r4 r5 = true) {pc' : Nat} {loc' : mj_L} {st' : List Value} {h' : mj_H} (hs : mj_step (.lrem) r1 r2 r3 mj_new pc loc st h = some (pc', loc', st', h')) (hr : mj_Rel B b D dA s nL n0 s0 loc h ls H locs cells slots)
    (hcl : h'.length ≤ n0 + R.cells) (hsl : mj_sl h' ≤ s0 + R.slots)
    (k : ∀ (ls' : Array Slot) (H' : Heap) (locs' : List Loc) (cells' slots' : Nat), mj_Rel B b D dA s nL n0 s0 loc' h' ls' H' locs' cells' slots' → W p l e R s m args below meth c H' locs' cells' slots' Q (F0 m pc' ls' (st'.map (mj_rv B b)))) :
    W p l e R s m args below meth c H locs cells slots Q (F0 m pc ls (st.map (mj_rv B b))) := by
  obtain ⟨hx, hb, hml, hown, hts, hK, hB, hbB, hlk, hin⟩ := C
  simp only [mj_step] at hs
  split at hs
  · split at hs
    · cases hs
    · rename_i h0
      cases hs
      exact lv_lrem hx hb hd h0 (k _ _ _ _ _ hr)
  · cases hs
theorem mj_s_fdiv {r1 r2 r3 r4 r5 : Nat} (C : mj_Ctx p s m args meth c y cc nL B b D dA) (hd : decode cc pc = .ok (.fdiv, mj_len (.fdiv))) (ho : mj_okS y pc (.fdiv) r1 r2 r3 r4 r5 = true) {pc' : Nat} {loc' : mj_L} {st' : List Value} {h' : mj_H} (hs : mj_step (.fdiv) r1 r2 r3 mj_new pc loc st h = some (pc', loc', st', h')) (hr : mj_Rel B b D dA s nL n0 s0 loc h ls H locs cells slots)
    (hcl : h'.length ≤ n0 + R.cells) (hsl : mj_sl h' ≤ s0 + R.slots)
    (k : ∀ (ls' : Array Slot) (H' : Heap) (locs' : List Loc) (cells' slots' : Nat), mj_Rel B b D dA s nL n0 s0 loc' h' ls' H' locs' cells' slots' → W p l e R s m args below meth c H' locs' cells' slots' Q (F0 m pc' ls' (st'.map (mj_rv B b)))) :
    W p l e R s m args below meth c H locs cells slots Q (F0 m pc ls (st.map (mj_rv B b))) := by
  obtain ⟨hx, hb, hml, hown, hts, hK, hB, hbB, hlk, hin⟩ := C
  simp only [mj_step] at hs
  split at hs
  · split at hs
    · rename_i h0
      cases hs
      exact lv_fdiv hx hb hd h0 (k _ _ _ _ _ hr)
    · cases hs
  · cases hs
theorem mj_s_ddiv {r1 r2 r3 r4 r5 : Nat} (C : mj_Ctx p s m args meth c y cc nL B b D dA) (hd : decode cc pc = .ok (.ddiv, mj_len (.ddiv))) (ho : mj_okS y pc (.ddiv) r1 r2 r3 r4 r5 = true) {pc' : Nat} {loc' : mj_L} {st' : List Value} {h' : mj_H} (hs : mj_step (.ddiv) r1 r2 r3 mj_new pc loc st h = some (pc', loc', st', h')) (hr : mj_Rel B b D dA s nL n0 s0 loc h ls H locs cells slots)
    (hcl : h'.length ≤ n0 + R.cells) (hsl : mj_sl h' ≤ s0 + R.slots)
    (k : ∀ (ls' : Array Slot) (H' : Heap) (locs' : List Loc) (cells' slots' : Nat), mj_Rel B b D dA s nL n0 s0 loc' h' ls' H' locs' cells' slots' → W p l e R s m args below meth c H' locs' cells' slots' Q (F0 m pc' ls' (st'.map (mj_rv B b)))) :
    W p l e R s m args below meth c H locs cells slots Q (F0 m pc ls (st.map (mj_rv B b))) := by
  obtain ⟨hx, hb, hml, hown, hts, hK, hB, hbB, hlk, hin⟩ := C
  simp only [mj_step] at hs
  split at hs
  · split at hs
    · rename_i h0
      cases hs
      exact lv_ddiv hx hb hd h0 (k _ _ _ _ _ hr)
    · cases hs
  · cases hs
theorem mj_s_f2d {r1 r2 r3 r4 r5 : Nat} (C : mj_Ctx p s m args meth c y cc nL B b D dA) (hd : decode cc pc = .ok (.f2d, mj_len (.f2d))) (ho : mj_okS y pc (.f2d) r1 r2 r3 r4 r5 = true) {pc' : Nat} {loc' : mj_L} {st' : List Value} {h' : mj_H} (hs : mj_step (.f2d) r1 r2 r3 mj_new pc loc st h = some (pc', loc', st', h')) (hr : mj_Rel B b D dA s nL n0 s0 loc h ls H locs cells slots)
    (hcl : h'.length ≤ n0 + R.cells) (hsl : mj_sl h' ≤ s0 + R.slots)
    (k : ∀ (ls' : Array Slot) (H' : Heap) (locs' : List Loc) (cells' slots' : Nat), mj_Rel B b D dA s nL n0 s0 loc' h' ls' H' locs' cells' slots' → W p l e R s m args below meth c H' locs' cells' slots' Q (F0 m pc' ls' (st'.map (mj_rv B b)))) :
    W p l e R s m args below meth c H locs cells slots Q (F0 m pc ls (st.map (mj_rv B b))) := by
  obtain ⟨hx, hb, hml, hown, hts, hK, hB, hbB, hlk, hin⟩ := C
  simp only [mj_step] at hs
  split at hs
  · split at hs
    · rename_i h0
      cases hs
      exact lv_f2d hx hb hd h0 (k _ _ _ _ _ hr)
    · cases hs
  · cases hs
theorem mj_s_iconst {r1 r2 r3 r4 r5 : Nat} {n : Int} (C : mj_Ctx p s m args meth c y cc nL B b D dA) (hd : decode cc pc = .ok (.iconst n, mj_len (.iconst n))) (ho : mj_okS y pc (.iconst n) r1 r2 r3 r4 r5 = true) {pc' : Nat} {loc' : mj_L} {st' : List Value} {h' : mj_H} (hs : mj_step (.iconst n) r1 r2 r3 mj_new pc loc st h = some (pc', loc', st', h')) (hr : mj_Rel B b D dA s nL n0 s0 loc h ls H locs cells slots)
    (hcl : h'.length ≤ n0 + R.cells) (hsl : mj_sl h' ≤ s0 + R.slots)
    (k : ∀ (ls' : Array Slot) (H' : Heap) (locs' : List Loc) (cells' slots' : Nat), mj_Rel B b D dA s nL n0 s0 loc' h' ls' H' locs' cells' slots' → W p l e R s m args below meth c H' locs' cells' slots' Q (F0 m pc' ls' (st'.map (mj_rv B b)))) :
    W p l e R s m args below meth c H locs cells slots Q (F0 m pc ls (st.map (mj_rv B b))) := by
  obtain ⟨hx, hb, hml, hown, hts, hK, hB, hbB, hlk, hin⟩ := C
  simp only [mj_step] at hs
  cases hs
  exact lv_iconst hx hb hd rfl (k _ _ _ _ _ hr)
theorem mj_s_lconst {r1 r2 r3 r4 r5 : Nat} {n : Fin 2} (C : mj_Ctx p s m args meth c y cc nL B b D dA) (hd : decode cc pc = .ok (.lconst n, mj_len (.lconst n))) (ho : mj_okS y pc (.lconst n) r1 r2 r3 r4 r5 = true) {pc' : Nat} {loc' : mj_L} {st' : List Value} {h' : mj_H} (hs : mj_step (.lconst n) r1 r2 r3 mj_new pc loc st h = some (pc', loc', st', h')) (hr : mj_Rel B b D dA s nL n0 s0 loc h ls H locs cells slots)
    (hcl : h'.length ≤ n0 + R.cells) (hsl : mj_sl h' ≤ s0 + R.slots)
    (k : ∀ (ls' : Array Slot) (H' : Heap) (locs' : List Loc) (cells' slots' : Nat), mj_Rel B b D dA s nL n0 s0 loc' h' ls' H' locs' cells' slots' → W p l e R s m args below meth c H' locs' cells' slots' Q (F0 m pc' ls' (st'.map (mj_rv B b)))) :
    W p l e R s m args below meth c H locs cells slots Q (F0 m pc ls (st.map (mj_rv B b))) := by
  obtain ⟨hx, hb, hml, hown, hts, hK, hB, hbB, hlk, hin⟩ := C
  simp only [mj_step] at hs
  cases hs
  exact lv_lconst hx hb hd rfl (k _ _ _ _ _ hr)
theorem mj_s_bipush {r1 r2 r3 r4 r5 : Nat} {n : Int} (C : mj_Ctx p s m args meth c y cc nL B b D dA) (hd : decode cc pc = .ok (.bipush n, mj_len (.bipush n))) (ho : mj_okS y pc (.bipush n) r1 r2 r3 r4 r5 = true) {pc' : Nat} {loc' : mj_L} {st' : List Value} {h' : mj_H} (hs : mj_step (.bipush n) r1 r2 r3 mj_new pc loc st h = some (pc', loc', st', h')) (hr : mj_Rel B b D dA s nL n0 s0 loc h ls H locs cells slots)
    (hcl : h'.length ≤ n0 + R.cells) (hsl : mj_sl h' ≤ s0 + R.slots)
    (k : ∀ (ls' : Array Slot) (H' : Heap) (locs' : List Loc) (cells' slots' : Nat), mj_Rel B b D dA s nL n0 s0 loc' h' ls' H' locs' cells' slots' → W p l e R s m args below meth c H' locs' cells' slots' Q (F0 m pc' ls' (st'.map (mj_rv B b)))) :
    W p l e R s m args below meth c H locs cells slots Q (F0 m pc ls (st.map (mj_rv B b))) := by
  obtain ⟨hx, hb, hml, hown, hts, hK, hB, hbB, hlk, hin⟩ := C
  simp only [mj_step] at hs
  cases hs
  exact lv_bipush hx hb hd (of_decide_eq_true ho) (k _ _ _ _ _ hr)
theorem mj_s_sipush {r1 r2 r3 r4 r5 : Nat} {n : Int} (C : mj_Ctx p s m args meth c y cc nL B b D dA) (hd : decode cc pc = .ok (.sipush n, mj_len (.sipush n))) (ho : mj_okS y pc (.sipush n) r1 r2 r3 r4 r5 = true) {pc' : Nat} {loc' : mj_L} {st' : List Value} {h' : mj_H} (hs : mj_step (.sipush n) r1 r2 r3 mj_new pc loc st h = some (pc', loc', st', h')) (hr : mj_Rel B b D dA s nL n0 s0 loc h ls H locs cells slots)
    (hcl : h'.length ≤ n0 + R.cells) (hsl : mj_sl h' ≤ s0 + R.slots)
    (k : ∀ (ls' : Array Slot) (H' : Heap) (locs' : List Loc) (cells' slots' : Nat), mj_Rel B b D dA s nL n0 s0 loc' h' ls' H' locs' cells' slots' → W p l e R s m args below meth c H' locs' cells' slots' Q (F0 m pc' ls' (st'.map (mj_rv B b)))) :
    W p l e R s m args below meth c H locs cells slots Q (F0 m pc ls (st.map (mj_rv B b))) := by
  obtain ⟨hx, hb, hml, hown, hts, hK, hB, hbB, hlk, hin⟩ := C
  simp only [mj_step] at hs
  cases hs
  exact lv_sipush hx hb hd (of_decide_eq_true ho) (k _ _ _ _ _ hr)
theorem mj_s_iload {r1 r2 r3 r4 r5 : Nat} {n : Nat} (C : mj_Ctx p s m args meth c y cc nL B b D dA) (hd : decode cc pc = .ok (.iload n, mj_len (.iload n))) (ho : mj_okS y pc (.iload n) r1 r2 r3 r4 r5 = true) {pc' : Nat} {loc' : mj_L} {st' : List Value} {h' : mj_H} (hs : mj_step (.iload n) r1 r2 r3 mj_new pc loc st h = some (pc', loc', st', h')) (hr : mj_Rel B b D dA s nL n0 s0 loc h ls H locs cells slots)
    (hcl : h'.length ≤ n0 + R.cells) (hsl : mj_sl h' ≤ s0 + R.slots)
    (k : ∀ (ls' : Array Slot) (H' : Heap) (locs' : List Loc) (cells' slots' : Nat), mj_Rel B b D dA s nL n0 s0 loc' h' ls' H' locs' cells' slots' → W p l e R s m args below meth c H' locs' cells' slots' Q (F0 m pc' ls' (st'.map (mj_rv B b)))) :
    W p l e R s m args below meth c H locs cells slots Q (F0 m pc ls (st.map (mj_rv B b))) := by
  obtain ⟨hx, hb, hml, hown, hts, hK, hB, hbB, hlk, hin⟩ := C
  simp only [mj_step] at hs
  obtain ⟨v, hv, he⟩ := Option.map_eq_some_iff.mp hs
  cases he
  obtain ⟨x, rfl, hl⟩ := mj_load1_of hv
  exact lv_iload hx hb hd (hr.2.1.get hl) (k _ _ _ _ _ hr)
theorem mj_s_iload_n {r1 r2 r3 r4 r5 : Nat} {n : Fin 4} (C : mj_Ctx p s m args meth c y cc nL B b D dA) (hd : decode cc pc = .ok (.iload_n n, mj_len (.iload_n n))) (ho : mj_okS y pc (.iload_n n) r1 r2 r3 r4 r5 = true) {pc' : Nat} {loc' : mj_L} {st' : List Value} {h' : mj_H} (hs : mj_step (.iload_n n) r1 r2 r3 mj_new pc loc st h = some (pc', loc', st', h')) (hr : mj_Rel B b D dA s nL n0 s0 loc h ls H locs cells slots)
    (hcl : h'.length ≤ n0 + R.cells) (hsl : mj_sl h' ≤ s0 + R.slots)
    (k : ∀ (ls' : Array Slot) (H' : Heap) (locs' : List Loc) (cells' slots' : Nat), mj_Rel B b D dA s nL n0 s0 loc' h' ls' H' locs' cells' slots' → W p l e R s m args below meth c H' locs' cells' slots' Q (F0 m pc' ls' (st'.map (mj_rv B b)))) :
    W p l e R s m args below meth c H locs cells slots Q (F0 m pc ls (st.map (mj_rv B b))) := by
  obtain ⟨hx, hb, hml, hown, hts, hK, hB, hbB, hlk, hin⟩ := C
  simp only [mj_step] at hs
  obtain ⟨v, hv, he⟩ := Option.map_eq_some_iff.mp hs
  cases he
  obtain ⟨x, rfl, hl⟩ := mj_load1_of hv
  exact lv_iload_n hx hb hd rfl (hr.2.1.get hl) (k _ _ _ _ _ hr)
theorem mj_s_lload {r1 r2 r3 r4 r5 : Nat} {n : Nat} (C : mj_Ctx p s m args meth c y cc nL B b D dA) (hd : decode cc pc = .ok (.lload n, mj_len (.lload n))) (ho : mj_okS y pc (.lload n) r1 r2 r3 r4 r5 = true) {pc' : Nat} {loc' : mj_L} {st' : List Value} {h' : mj_H} (hs : mj_step (.lload n) r1 r2 r3 mj_new pc loc st h = some (pc', loc', st', h')) (hr : mj_Rel B b D dA s nL n0 s0 loc h ls H locs cells slots)
    (hcl : h'.length ≤ n0 + R.cells) (hsl : mj_sl h' ≤ s0 + R.slots)
    (k : ∀ (ls' : Array Slot) (H' : Heap) (locs' : List Loc) (cells' slots' : Nat), mj_Rel B b D dA s nL n0 s0 loc' h' ls' H' locs' cells' slots' → W p l e R s m args below meth c H' locs' cells' slots' Q (F0 m pc' ls' (st'.map (mj_rv B b)))) :
    W p l e R s m args below meth c H locs cells slots Q (F0 m pc ls (st.map (mj_rv B b))) := by
  obtain ⟨hx, hb, hml, hown, hts, hK, hB, hbB, hlk, hin⟩ := C
  simp only [mj_step] at hs
  obtain ⟨v, hv, he⟩ := Option.map_eq_some_iff.mp hs
  cases he
  obtain ⟨x, rfl, hl⟩ := mj_loadL_of hv
  exact lv_lload hx hb hd (hr.2.1.get hl) (k _ _ _ _ _ hr)
theorem mj_s_lload_n {r1 r2 r3 r4 r5 : Nat} {n : Fin 4} (C : mj_Ctx p s m args meth c y cc nL B b D dA) (hd : decode cc pc = .ok (.lload_n n, mj_len (.lload_n n))) (ho : mj_okS y pc (.lload_n n) r1 r2 r3 r4 r5 = true) {pc' : Nat} {loc' : mj_L} {st' : List Value} {h' : mj_H} (hs : mj_step (.lload_n n) r1 r2 r3 mj_new pc loc st h = some (pc', loc', st', h')) (hr : mj_Rel B b D dA s nL n0 s0 loc h ls H locs cells slots)
    (hcl : h'.length ≤ n0 + R.cells) (hsl : mj_sl h' ≤ s0 + R.slots)
    (k : ∀ (ls' : Array Slot) (H' : Heap) (locs' : List Loc) (cells' slots' : Nat), mj_Rel B b D dA s nL n0 s0 loc' h' ls' H' locs' cells' slots' → W p l e R s m args below meth c H' locs' cells' slots' Q (F0 m pc' ls' (st'.map (mj_rv B b)))) :
    W p l e R s m args below meth c H locs cells slots Q (F0 m pc ls (st.map (mj_rv B b))) := by
  obtain ⟨hx, hb, hml, hown, hts, hK, hB, hbB, hlk, hin⟩ := C
  simp only [mj_step] at hs
  obtain ⟨v, hv, he⟩ := Option.map_eq_some_iff.mp hs
  cases he
  obtain ⟨x, rfl, hl⟩ := mj_loadL_of hv
  exact lv_lload_n hx hb hd rfl (hr.2.1.get hl) (k _ _ _ _ _ hr)
theorem mj_s_dload {r1 r2 r3 r4 r5 : Nat} {n : Nat} (C : mj_Ctx p s m args meth c y cc nL B b D dA) (hd : decode cc pc = .ok (.dload n, mj_len (.dload n))) (ho : mj_okS y pc (.dload n) r1 r2 r3 r4 r5 = true) {pc' : Nat} {loc' : mj_L} {st' : List Value} {h' : mj_H} (hs : mj_step (.dload n) r1 r2 r3 mj_new pc loc st h = some (pc', loc', st', h')) (hr : mj_Rel B b D dA s nL n0 s0 loc h ls H locs cells slots)
    (hcl : h'.length ≤ n0 + R.cells) (hsl : mj_sl h' ≤ s0 + R.slots)
    (k : ∀ (ls' : Array Slot) (H' : Heap) (locs' : List Loc) (cells' slots' : Nat), mj_Rel B b D dA s nL n0 s0 loc' h' ls' H' locs' cells' slots' → W p l e R s m args below meth c H' locs' cells' slots' Q (F0 m pc' ls' (st'.map (mj_rv B b)))) :
    W p l e R s m args below meth c H locs cells slots Q (F0 m pc ls (st.map (mj_rv B b))) := by
  obtain ⟨hx, hb, hml, hown, hts, hK, hB, hbB, hlk, hin⟩ := C
  simp only [mj_step] at hs
  obtain ⟨v, hv, he⟩ := Option.map_eq_some_iff.mp hs
  cases he
  obtain ⟨x, rfl, hl⟩ := mj_loadD_of hv
  exact lv_dload hx hb hd (hr.2.1.get hl) (k _ _ _ _ _ hr)
theorem mj_s_dload_n {r1 r2 r3 r4 r5 : Nat} {n : Fin 4} (C : mj_Ctx p s m args meth c y cc nL B b D dA) (hd : decode cc pc = .ok (.dload_n n, mj_len (.dload_n n))) (ho : mj_okS y pc (.dload_n n) r1 r2 r3 r4 r5 = true) {pc' : Nat} {loc' : mj_L} {st' : List Value} {h' : mj_H} (hs : mj_step (.dload_n n) r1 r2 r3 mj_new pc loc st h = some (pc', loc', st', h')) (hr : mj_Rel B b D dA s nL n0 s0 loc h ls H locs cells slots)
    (hcl : h'.length ≤ n0 + R.cells) (hsl : mj_sl h' ≤ s0 + R.slots)
    (k : ∀ (ls' : Array Slot) (H' : Heap) (locs' : List Loc) (cells' slots' : Nat), mj_Rel B b D dA s nL n0 s0 loc' h' ls' H' locs' cells' slots' → W p l e R s m args below meth c H' locs' cells' slots' Q (F0 m pc' ls' (st'.map (mj_rv B b)))) :
    W p l e R s m args below meth c H locs cells slots Q (F0 m pc ls (st.map (mj_rv B b))) := by
  obtain ⟨hx, hb, hml, hown, hts, hK, hB, hbB, hlk, hin⟩ := C
  simp only [mj_step] at hs
  obtain ⟨v, hv, he⟩ := Option.map_eq_some_iff.mp hs
  cases he
  obtain ⟨x, rfl, hl⟩ := mj_loadD_of hv
  exact lv_dload_n hx hb hd rfl (hr.2.1.get hl) (k _ _ _ _ _ hr)
theorem mj_s_aload {r1 r2 r3 r4 r5 : Nat} {n : Nat} (C : mj_Ctx p s m args meth c y cc nL B b D dA) (hd : decode cc pc = .ok (.aload n, mj_len (.aload n))) (ho : mj_okS y pc (.aload n) r1 r2 r3 r4 r5 = true) {pc' : Nat} {loc' : mj_L} {st' : List Value} {h' : mj_H} (hs : mj_step (.aload n) r1 r2 r3 mj_new pc loc st h = some (pc', loc', st', h')) (hr : mj_Rel B b D dA s nL n0 s0 loc h ls H locs cells slots)
    (hcl : h'.length ≤ n0 + R.cells) (hsl : mj_sl h' ≤ s0 + R.slots)
    (k : ∀ (ls' : Array Slot) (H' : Heap) (locs' : List Loc) (cells' slots' : Nat), mj_Rel B b D dA s nL n0 s0 loc' h' ls' H' locs' cells' slots' → W p l e R s m args below meth c H' locs' cells' slots' Q (F0 m pc' ls' (st'.map (mj_rv B b)))) :
    W p l e R s m args below meth c H locs cells slots Q (F0 m pc ls (st.map (mj_rv B b))) := by
  obtain ⟨hx, hb, hml, hown, hts, hK, hB, hbB, hlk, hin⟩ := C
  simp only [mj_step] at hs
  obtain ⟨v, hv, he⟩ := Option.map_eq_some_iff.mp hs
  cases he
  obtain ⟨x, rfl, hl⟩ := mj_loadA_of hv
  exact lv_aload hx hb hd (hr.2.1.get hl) (k _ _ _ _ _ hr)
theorem mj_s_aload_n {r1 r2 r3 r4 r5 : Nat} {n : Fin 4} (C : mj_Ctx p s m args meth c y cc nL B b D dA) (hd : decode cc pc = .ok (.aload_n n, mj_len (.aload_n n))) (ho : mj_okS y pc (.aload_n n) r1 r2 r3 r4 r5 = true) {pc' : Nat} {loc' : mj_L} {st' : List Value} {h' : mj_H} (hs : mj_step (.aload_n n) r1 r2 r3 mj_new pc loc st h = some (pc', loc', st', h')) (hr : mj_Rel B b D dA s nL n0 s0 loc h ls H locs cells slots)
    (hcl : h'.length ≤ n0 + R.cells) (hsl : mj_sl h' ≤ s0 + R.slots)
    (k : ∀ (ls' : Array Slot) (H' : Heap) (locs' : List Loc) (cells' slots' : Nat), mj_Rel B b D dA s nL n0 s0 loc' h' ls' H' locs' cells' slots' → W p l e R s m args below meth c H' locs' cells' slots' Q (F0 m pc' ls' (st'.map (mj_rv B b)))) :
    W p l e R s m args below meth c H locs cells slots Q (F0 m pc ls (st.map (mj_rv B b))) := by
  obtain ⟨hx, hb, hml, hown, hts, hK, hB, hbB, hlk, hin⟩ := C
  simp only [mj_step] at hs
  obtain ⟨v, hv, he⟩ := Option.map_eq_some_iff.mp hs
  cases he
  obtain ⟨x, rfl, hl⟩ := mj_loadA_of hv
  exact lv_aload_n hx hb hd rfl (hr.2.1.get hl) (k _ _ _ _ _ hr)
theorem mj_s_istore {r1 r2 r3 r4 r5 : Nat} {n : Nat} (C : mj_Ctx p s m args meth c y cc nL B b D dA) (hd : decode cc pc = .ok (.istore n, mj_len (.istore n))) (ho : mj_okS y pc (.istore n) r1 r2 r3 r4 r5 = true) {pc' : Nat} {loc' : mj_L} {st' : List Value} {h' : mj_H} (hs : mj_step (.istore n) r1 r2 r3 mj_new pc loc st h = some (pc', loc', st', h')) (hr : mj_Rel B b D dA s nL n0 s0 loc h ls H locs cells slots)
    (hcl : h'.length ≤ n0 + R.cells) (hsl : mj_sl h' ≤ s0 + R.slots)
    (k : ∀ (ls' : Array Slot) (H' : Heap) (locs' : List Loc) (cells' slots' : Nat), mj_Rel B b D dA s nL n0 s0 loc' h' ls' H' locs' cells' slots' → W p l e R s m args below meth c H' locs' cells' slots' Q (F0 m pc' ls' (st'.map (mj_rv B b)))) :
    W p l e R s m args below meth c H locs cells slots Q (F0 m pc ls (st.map (mj_rv B b))) := by
  obtain ⟨hx, hb, hml, hown, hts, hK, hB, hbB, hlk, hin⟩ := C
  simp only [mj_step] at hs
  split at hs
  · split at hs
    · rename_i h0
      cases hs
      exact lv_istore hx hb hd hr.2.1.has (by rw [← hr.2.1.2.1]; exact h0) rfl (fun ls' hl' => k _ _ _ _ _ (hr.ofL (hr.2.1.st1 rfl hl')))
    · cases hs
  · cases hs
theorem mj_s_istore_n {r1 r2 r3 r4 r5 : Nat} {n : Fin 4} (C : mj_Ctx p s m args meth c y cc nL B b D dA) (hd : decode cc pc = .ok (.istore_n n, mj_len (.istore_n n))) (ho : mj_okS y pc (.istore_n n) r1 r2 r3 r4 r5 = true) {pc' : Nat} {loc' : mj_L} {st' : List Value} {h' : mj_H} (hs : mj_step (.istore_n n) r1 r2 r3 mj_new pc loc st h = some (pc', loc', st', h')) (hr : mj_Rel B b D dA s nL n0 s0 loc h ls H locs cells slots)
    (hcl : h'.length ≤ n0 + R.cells) (hsl : mj_sl h' ≤ s0 + R.slots)
    (k : ∀ (ls' : Array Slot) (H' : Heap) (locs' : List Loc) (cells' slots' : Nat), mj_Rel B b D dA s nL n0 s0 loc' h' ls' H' locs' cells' slots' → W p l e R s m args below meth c H' locs' cells' slots' Q (F0 m pc' ls' (st'.map (mj_rv B b)))) :
    W p l e R s m args below meth c H locs cells slots Q (F0 m pc ls (st.map (mj_rv B b))) := by
  obtain ⟨hx, hb, hml, hown, hts, hK, hB, hbB, hlk, hin⟩ := C
  simp only [mj_step] at hs
  split at hs
  · split at hs
    · rename_i h0
      cases hs
      exact lv_istore_n hx hb hd rfl hr.2.1.has (by rw [← hr.2.1.2.1]; exact h0) rfl (fun ls' hl' => k _ _ _ _ _ (hr.ofL (hr.2.1.st1 rfl hl')))
    · cases hs
  · cases hs
theorem mj_s_astore {r1 r2 r3 r4 r5 : Nat} {n : Nat} (C : mj_Ctx p s m args meth c y cc nL B b D dA) (hd : decode cc pc = .ok (.astore n, mj_len (.astore n))) (ho : mj_okS y pc (.astore n) r1 r2 r3 r4 r5 = true) {pc' : Nat} {loc' : mj_L} {st' : List Value} {h' : mj_H} (hs : mj_step (.astore n) r1 r2 r3 mj_new pc loc st h = some (pc', loc', st', h')) (hr : mj_Rel B b D dA s nL n0 s0 loc h ls H locs cells slots)
    (hcl : h'.length ≤ n0 + R.cells) (hsl : mj_sl h' ≤ s0 + R.slots)
    (k : ∀ (ls' : Array Slot) (H' : Heap) (locs' : List Loc) (cells' slots' : Nat), mj_Rel B b D dA s nL n0 s0 loc' h' ls' H' locs' cells' slots' → W p l e R s m args below meth c H' locs' cells' slots' Q (F0 m pc' ls' (st'.map (mj_rv B b)))) :
    W p l e R s m args below meth c H locs cells slots Q (F0 m pc ls (st.map (mj_rv B b))) := by
  obtain ⟨hx, hb, hml, hown, hts, hK, hB, hbB, hlk, hin⟩ := C
  simp only [mj_step] at hs
  split at hs
  · split at hs
    · rename_i h0
      cases hs
      exact lv_astore hx hb hd hr.2.1.has (by rw [← hr.2.1.2.1]; exact h0) rfl (fun ls' hl' => k _ _ _ _ _ (hr.ofL (hr.2.1.st1 rfl hl')))
    · cases hs
  · cases hs
theorem mj_s_astore_n {r1 r2 r3 r4 r5 : Nat} {n : Fin 4} (C : mj_Ctx p s m args meth c y cc nL B b D dA) (hd : decode cc pc = .ok (.astore_n n, mj_len (.astore_n n))) (ho : mj_okS y pc (.astore_n n) r1 r2 r3 r4 r5 = true) {pc' : Nat} {loc' : mj_L} {st' : List Value} {h' : mj_H} (hs : mj_step (.astore_n n) r1 r2 r3 mj_new pc loc st h = some (pc', loc', st', h')) (hr : mj_Rel B b D dA s nL n0 s0 loc h ls H locs cells slots)
    (hcl : h'.length ≤ n0 + R.cells) (hsl : mj_sl h' ≤ s0 + R.slots)
    (k : ∀ (ls' : Array Slot) (H' : Heap) (locs' : List Loc) (cells' slots' : Nat), mj_Rel B b D dA s nL n0 s0 loc' h' ls' H' locs' cells' slots' → W p l e R s m args below meth c H' locs' cells' slots' Q (F0 m pc' ls' (st'.map (mj_rv B b)))) :
    W p l e R s m args below meth c H locs cells slots Q (F0 m pc ls (st.map (mj_rv B b))) := by
  obtain ⟨hx, hb, hml, hown, hts, hK, hB, hbB, hlk, hin⟩ := C
  simp only [mj_step] at hs
  split at hs
  · split at hs
    · rename_i h0
      cases hs
      exact lv_astore_n hx hb hd rfl hr.2.1.has (by rw [← hr.2.1.2.1]; exact h0) rfl (fun ls' hl' => k _ _ _ _ _ (hr.ofL (hr.2.1.st1 rfl hl')))
    · cases hs
  · cases hs
theorem mj_s_lstore {r1 r2 r3 r4 r5 : Nat} {n : Nat} (C : mj_Ctx p s m args meth c y cc nL B b D dA) (hd : decode cc pc = .ok (.lstore n, mj_len (.lstore n))) (ho : mj_okS y pc (.lstore n) r1 r2 r3 r4 r5 = true) {pc' : Nat} {loc' : mj_L} {st' : List Value} {h' : mj_H} (hs : mj_step (.lstore n) r1 r2 r3 mj_new pc loc st h = some (pc', loc', st', h')) (hr : mj_Rel B b D dA s nL n0 s0 loc h ls H locs cells slots)
    (hcl : h'.length ≤ n0 + R.cells) (hsl : mj_sl h' ≤ s0 + R.slots)
    (k : ∀ (ls' : Array Slot) (H' : Heap) (locs' : List Loc) (cells' slots' : Nat), mj_Rel B b D dA s nL n0 s0 loc' h' ls' H' locs' cells' slots' → W p l e R s m args below meth c H' locs' cells' slots' Q (F0 m pc' ls' (st'.map (mj_rv B b)))) :
    W p l e R s m args below meth c H locs cells slots Q (F0 m pc ls (st.map (mj_rv B b))) := by
  obtain ⟨hx, hb, hml, hown, hts, hK, hB, hbB, hlk, hin⟩ := C
  simp only [mj_step] at hs
  split at hs
  · split at hs
    · rename_i h0
      cases hs
      exact lv_lstore hx hb hd hr.2.1.has (by rw [← hr.2.1.2.1]; exact h0) rfl (fun ls' hl' => k _ _ _ _ _ (hr.ofL (hr.2.1.st2 rfl hl')))
    · cases hs
  · cases hs
theorem mj_s_lstore_n {r1 r2 r3 r4 r5 : Nat} {n : Fin 4} (C : mj_Ctx p s m args meth c y cc nL B b D dA) (hd : decode cc pc = .ok (.lstore_n n, mj_len (.lstore_n n))) (ho : mj_okS y pc (.lstore_n n) r1 r2 r3 r4 r5 = true) {pc' : Nat} {loc' : mj_L} {st' : List Value} {h' : mj_H} (hs : mj_step (.lstore_n n) r1 r2 r3 mj_new pc loc st h = some (pc', loc', st', h')) (hr : mj_Rel B b D dA s nL n0 s0 loc h ls H locs cells slots)
    (hcl : h'.length ≤ n0 + R.cells) (hsl : mj_sl h' ≤ s0 + R.slots)
    (k : ∀ (ls' : Array Slot) (H' : Heap) (locs' : List Loc) (cells' slots' : Nat), mj_Rel B b D dA s nL n0 s0 loc' h' ls' H' locs' cells' slots' → W p l e R s m args below meth c H' locs' cells' slots' Q (F0 m pc' ls' (st'.map (mj_rv B b)))) :
    W p l e R s m args below meth c H locs cells slots Q (F0 m pc ls (st.map (mj_rv B b))) := by
  obtain ⟨hx, hb, hml, hown, hts, hK, hB, hbB, hlk, hin⟩ := C
  simp only [mj_step] at hs
  split at hs
  · split at hs
    · rename_i h0
      cases hs
      exact lv_lstore_n hx hb hd rfl hr.2.1.has (by rw [← hr.2.1.2.1]; exact h0) rfl (fun ls' hl' => k _ _ _ _ _ (hr.ofL (hr.2.1.st2 rfl hl')))
    · cases hs
  · cases hs
theorem mj_s_dstore {r1 r2 r3 r4 r5 : Nat} {n : Nat} (C : mj_Ctx p s m args meth c y cc nL B b D dA) (hd : decode cc pc = .ok (.dstore n, mj_len (.dstore n))) (ho : mj_okS y pc (.dstore n) r1 r2 r3 r4 r5 = true) {pc' : Nat} {loc' : mj_L} {st' : List Value} {h' : mj_H} (hs : mj_step (.dstore n) r1 r2 r3 mj_new pc loc st h = some (pc', loc', st', h')) (hr : mj_Rel B b D dA s nL n0 s0 loc h ls H locs cells slots)
    (hcl : h'.length ≤ n0 + R.cells) (hsl : mj_sl h' ≤ s0 + R.slots)
    (k : ∀ (ls' : Array Slot) (H' : Heap) (locs' : List Loc) (cells' slots' : Nat), mj_Rel B b D dA s nL n0 s0 loc' h' ls' H' locs' cells' slots' → W p l e R s m args below meth c H' locs' cells' slots' Q (F0 m pc' ls' (st'.map (mj_rv B b)))) :
    W p l e R s m args below meth c H locs cells slots Q (F0 m pc ls (st.map (mj_rv B b))) := by
  obtain ⟨hx, hb, hml, hown, hts, hK, hB, hbB, hlk, hin⟩ := C
  simp only [mj_step] at hs
  split at hs
  · split at hs
    · rename_i h0
      cases hs
      exact lv_dstore hx hb hd hr.2.1.has (by rw [← hr.2.1.2.1]; exact h0) rfl (fun ls' hl' => k _ _ _ _ _ (hr.ofL (hr.2.1.st2 rfl hl')))
    · cases hs
  · cases hs
theorem mj_s_dstore_n {r1 r2 r3 r4 r5 : Nat} {n : Fin 4} (C : mj_Ctx p s m args meth c y cc nL B b D dA) (hd : decode cc pc = .ok (.dstore_n n, mj_len (.dstore_n n))) (ho : mj_okS y pc (.dstore_n n) r1 r2 r3 r4 r5 = true) {pc' : Nat} {loc' : mj_L} {st' : List Value} {h' : mj_H} (hs : mj_step (.dstore_n n) r1 r2 r3 mj_new pc loc st h = some (pc', loc', st', h')) (hr : mj_Rel B b D dA s nL n0 s0 loc h ls H locs cells slots)
    (hcl : h'.length ≤ n0 + R.cells) (hsl : mj_sl h' ≤ s0 + R.slots)
    (k : ∀ (ls' : Array Slot) (H' : Heap) (locs' : List Loc) (cells' slots' : Nat), mj_Rel B b D dA s nL n0 s0 loc' h' ls' H' locs' cells' slots' → W p l e R s m args below meth c H' locs' cells' slots' Q (F0 m pc' ls' (st'.map (mj_rv B b)))) :
    W p l e R s m args below meth c H locs cells slots Q (F0 m pc ls (st.map (mj_rv B b))) := by
  obtain ⟨hx, hb, hml, hown, hts, hK, hB, hbB, hlk, hin⟩ := C
  simp only [mj_step] at hs
  split at hs
  · split at hs
    · rename_i h0
      cases hs
      exact lv_dstore_n hx hb hd rfl hr.2.1.has (by rw [← hr.2.1.2.1]; exact h0) rfl (fun ls' hl' => k _ _ _ _ _ (hr.ofL (hr.2.1.st2 rfl hl')))
    · cases hs
  · cases hs
theorem mj_s_iinc {r1 r2 r3 r4 r5 : Nat} {n : Nat} {z : Int} (C : mj_Ctx p s m args meth c y cc nL B b D dA) (hd : decode cc pc = .ok (.iinc n z, mj_len (.iinc n z))) (ho : mj_okS y pc (.iinc n z) r1 r2 r3 r4 r5 = true) {pc' : Nat} {loc' : mj_L} {st' : List Value} {h' : mj_H} (hs : mj_step (.iinc n z) r1 r2 r3 mj_new pc loc st h = some (pc', loc', st', h')) (hr : mj_Rel B b D dA s nL n0 s0 loc h ls H locs cells slots)
    (hcl : h'.length ≤ n0 + R.cells) (hsl : mj_sl h' ≤ s0 + R.slots)
    (k : ∀ (ls' : Array Slot) (H' : Heap) (locs' : List Loc) (cells' slots' : Nat), mj_Rel B b D dA s nL n0 s0 loc' h' ls' H' locs' cells' slots' → W p l e R s m args below meth c H' locs' cells' slots' Q (F0 m pc' ls' (st'.map (mj_rv B b)))) :
    W p l e R s m args below meth c H locs cells slots Q (F0 m pc ls (st.map (mj_rv B b))) := by
  obtain ⟨hx, hb, hml, hown, hts, hK, hB, hbB, hlk, hin⟩ := C
  simp only [mj_step] at hs
  split at hs
  · rename_i x hx2
    cases hs
    obtain ⟨k0, hk0⟩ := List.getElem?_of_mem (mj_lv_mem (B := B) (b := b) hx2)
    exact lv_iinc hx hb hd hr.2.1.has hk0 rfl (by rw [← hr.2.1.2.1]; exact (List.getElem?_eq_some_iff.mp hx2).1) rfl (fun ls' hl' => k _ _ _ _ _ (hr.ofL (hr.2.1.st1 rfl hl')))
  · cases hs
theorem mj_s_goto {r1 r2 r3 r4 r5 : Nat} {off : Int} (C : mj_Ctx p s m args meth c y cc nL B b D dA) (hd : decode cc pc = .ok (.goto off, mj_len (.goto off))) (ho : mj_okS y pc (.goto off) r1 r2 r3 r4 r5 = true) {pc' : Nat} {loc' : mj_L} {st' : List Value} {h' : mj_H} (hs : mj_step (.goto off) r1 r2 r3 mj_new pc loc st h = some (pc', loc', st', h')) (hr : mj_Rel B b D dA s nL n0 s0 loc h ls H locs cells slots)
    (hcl : h'.length ≤ n0 + R.cells) (hsl : mj_sl h' ≤ s0 + R.slots)
    (k : ∀ (ls' : Array Slot) (H' : Heap) (locs' : List Loc) (cells' slots' : Nat), mj_Rel B b D dA s nL n0 s0 loc' h' ls' H' locs' cells' slots' → W p l e R s m args below meth c H' locs' cells' slots' Q (F0 m pc' ls' (st'.map (mj_rv B b)))) :
    W p l e R s m args below meth c H locs cells slots Q (F0 m pc ls (st.map (mj_rv B b))) := by
  obtain ⟨hx, hb, hml, hown, hts, hK, hB, hbB, hlk, hin⟩ := C
  simp only [mj_step] at hs
  cases hs
  exact lv_goto hx hb hd (of_decide_eq_true ho) (k _ _ _ _ _ hr)
theorem mj_s_ifCond {r1 r2 r3 r4 r5 : Nat} {cd : ClassFile.Cond} {off : Int} (C : mj_Ctx p s m args meth c y cc nL B b D dA) (hd : decode cc pc = .ok (.ifCond cd off, mj_len (.ifCond cd off))) (ho : mj_okS y pc (.ifCond cd off) r1 r2 r3 r4 r5 = true) {pc' : Nat} {loc' : mj_L} {st' : List Value} {h' : mj_H} (hs : mj_step (.ifCond cd off) r1 r2 r3 mj_new pc loc st h = some (pc', loc', st', h')) (hr : mj_Rel B b D dA s nL n0 s0 loc h ls H locs cells slots)
    (hcl : h'.length ≤ n0 + R.cells) (hsl : mj_sl h' ≤ s0 + R.slots)
    (k : ∀ (ls' : Array Slot) (H' : Heap) (locs' : List Loc) (cells' slots' : Nat), mj_Rel B b D dA s nL n0 s0 loc' h' ls' H' locs' cells' slots' → W p l e R s m args below meth c H' locs' cells' slots' Q (F0 m pc' ls' (st'.map (mj_rv B b)))) :
    W p l e R s m args below meth c H locs cells slots Q (F0 m pc ls (st.map (mj_rv B b))) := by
  obtain ⟨hx, hb, hml, hown, hts, hK, hB, hbB, hlk, hin⟩ := C
  simp only [mj_step] at hs
  split at hs
  · cases hs
    have ho2 : (pc : Int) + off = (r1 : Int) := of_decide_eq_true ho
    cases cd
    · refine lv_if_eq hx hb hd ho2 (fun hc => ?_) (fun hc => ?_)
      · have k := k _ _ _ _ _ hr
        rw [if_pos (by simp [mj_cnd]; first | exact hc | simpa using hc)] at k
        exact k
      · have k := k _ _ _ _ _ hr
        rw [if_neg (by simp [mj_cnd]; first | exact hc | simpa using hc)] at k
        exact k
    · refine lv_if_ne hx hb hd ho2 (fun hc => ?_) (fun hc => ?_)
      · have k := k _ _ _ _ _ hr
        rw [if_pos (by simp [mj_cnd]; first | exact hc | simpa using hc)] at k
        exact k
      · have k := k _ _ _ _ _ hr
        rw [if_neg (by simp [mj_cnd]; first | exact hc | simpa using hc)] at k
        exact k
    · refine lv_if_lt hx hb hd ho2 (fun hc => ?_) (fun hc => ?_)
      · have k := k _ _ _ _ _ hr
        rw [if_pos (by simp [mj_cnd]; first | exact hc | simpa using hc)] at k
        exact k
      · have k := k _ _ _ _ _ hr
        rw [if_neg (by simp [mj_cnd]; first | exact hc | simpa using hc)] at k
        exact k
    · refine lv_if_ge hx hb hd ho2 (fun hc => ?_) (fun hc => ?_)
      · have k := k _ _ _ _ _ hr
        rw [if_pos (by simp [mj_cnd]; first | exact hc | simpa using hc)] at k
        exact k
      · have k := k _ _ _ _ _ hr
        rw [if_neg (by simp [mj_cnd]; first | exact hc | simpa using hc)] at k
        exact k
    · refine lv_if_gt hx hb hd ho2 (fun hc => ?_) (fun hc => ?_)
      · have k := k _ _ _ _ _ hr
        rw [if_pos (by simp [mj_cnd]; first | exact hc | simpa using hc)] at k
        exact k
      · have k := k _ _ _ _ _ hr
        rw [if_neg (by simp [mj_cnd]; first | exact hc | simpa using hc)] at k
        exact k
    · refine lv_if_le hx hb hd ho2 (fun hc => ?_) (fun hc => ?_)
      · have k := k _ _ _ _ _ hr
        rw [if_pos (by simp [mj_cnd]; first | exact hc | simpa using hc)] at k
        exact k
      · have k := k _ _ _ _ _ hr
        rw [if_neg (by simp [mj_cnd]; first | exact hc | simpa using hc)] at k
        exact k
  · cases hs
theorem mj_s_if_icmp {r1 r2 r3 r4 r5 : Nat} {cd : ClassFile.Cond} {off : Int} (C : mj_Ctx p s m args meth c y cc nL B b D dA) (hd : decode cc pc = .ok (.if_icmp cd off, mj_len (.if_icmp cd off))) (ho : mj_okS y pc (.if_icmp cd off) r1 r2 r3 r4 r5 = true) {pc' : Nat} {loc' : mj_L} {st' : List Value} {h' : mj_H} (hs : mj_step (.if_icmp cd off) r1 r2 r3 mj_new pc loc st h = some (pc', loc', st', h')) (hr : mj_Rel B b D dA s nL n0 s0 loc h ls H locs cells slots)
    (hcl : h'.length ≤ n0 + R.cells) (hsl : mj_sl h' ≤ s0 + R.slots)
    (k : ∀ (ls' : Array Slot) (H' : Heap) (locs' : List Loc) (cells' slots' : Nat), mj_Rel B b D dA s nL n0 s0 loc' h' ls' H' locs' cells' slots' → W p l e R s m args below meth c H' locs' cells' slots' Q (F0 m pc' ls' (st'.map (mj_rv B b)))) :
    W p l e R s m args below meth c H locs cells slots Q (F0 m pc ls (st.map (mj_rv B b))) := by
  obtain ⟨hx, hb, hml, hown, hts, hK, hB, hbB, hlk, hin⟩ := C
  simp only [mj_step] at hs
  split at hs
  · cases hs
    have ho2 : (pc : Int) + off = (r1 : Int) := of_decide_eq_true ho
    cases cd
    · refine lv_icmp_eq hx hb hd ho2 (fun hc => ?_) (fun hc => ?_)
      · have k := k _ _ _ _ _ hr
        rw [if_pos (by simp [mj_cnd]; first | exact hc | simpa using hc)] at k
        exact k
      · have k := k _ _ _ _ _ hr
        rw [if_neg (by simp [mj_cnd]; first | exact hc | simpa using hc)] at k
        exact k
    · refine lv_icmp_ne hx hb hd ho2 (fun hc => ?_) (fun hc => ?_)
      · have k := k _ _ _ _ _ hr
        rw [if_pos (by simp [mj_cnd]; first | exact hc | simpa using hc)] at k
        exact k
      · have k := k _ _ _ _ _ hr
        rw [if_neg (by simp [mj_cnd]; first | exact hc | simpa using hc)] at k
        exact k
    · refine lv_icmp_lt hx hb hd ho2 (fun hc => ?_) (fun hc => ?_)
      · have k := k _ _ _ _ _ hr
        rw [if_pos (by simp [mj_cnd]; first | exact hc | simpa using hc)] at k
        exact k
      · have k := k _ _ _ _ _ hr
        rw [if_neg (by simp [mj_cnd]; first | exact hc | simpa using hc)] at k
        exact k
    · refine lv_icmp_ge hx hb hd ho2 (fun hc => ?_) (fun hc => ?_)
      · have k := k _ _ _ _ _ hr
        rw [if_pos (by simp [mj_cnd]; first | exact hc | simpa using hc)] at k
        exact k
      · have k := k _ _ _ _ _ hr
        rw [if_neg (by simp [mj_cnd]; first | exact hc | simpa using hc)] at k
        exact k
    · refine lv_icmp_gt hx hb hd ho2 (fun hc => ?_) (fun hc => ?_)
      · have k := k _ _ _ _ _ hr
        rw [if_pos (by simp [mj_cnd]; first | exact hc | simpa using hc)] at k
        exact k
      · have k := k _ _ _ _ _ hr
        rw [if_neg (by simp [mj_cnd]; first | exact hc | simpa using hc)] at k
        exact k
    · refine lv_icmp_le hx hb hd ho2 (fun hc => ?_) (fun hc => ?_)
      · have k := k _ _ _ _ _ hr
        rw [if_pos (by simp [mj_cnd]; first | exact hc | simpa using hc)] at k
        exact k
      · have k := k _ _ _ _ _ hr
        rw [if_neg (by simp [mj_cnd]; first | exact hc | simpa using hc)] at k
        exact k
  · cases hs
theorem mj_s_dup {r1 r2 r3 r4 r5 : Nat} (C : mj_Ctx p s m args meth c y cc nL B b D dA) (hd : decode cc pc = .ok (.dup, mj_len (.dup))) (ho : mj_okS y pc (.dup) r1 r2 r3 r4 r5 = true) {pc' : Nat} {loc' : mj_L} {st' : List Value} {h' : mj_H} (hs : mj_step (.dup) r1 r2 r3 mj_new pc loc st h = some (pc', loc', st', h')) (hr : mj_Rel B b D dA s nL n0 s0 loc h ls H locs cells slots)
    (hcl : h'.length ≤ n0 + R.cells) (hsl : mj_sl h' ≤ s0 + R.slots)
    (k : ∀ (ls' : Array Slot) (H' : Heap) (locs' : List Loc) (cells' slots' : Nat), mj_Rel B b D dA s nL n0 s0 loc' h' ls' H' locs' cells' slots' → W p l e R s m args below meth c H' locs' cells' slots' Q (F0 m pc' ls' (st'.map (mj_rv B b)))) :
    W p l e R s m args below meth c H locs cells slots Q (F0 m pc ls (st.map (mj_rv B b))) := by
  obtain ⟨hx, hb, hml, hown, hts, hK, hB, hbB, hlk, hin⟩ := C
  simp only [mj_step] at hs
  split at hs
  · cases hs
    exact lv_dup hx hb hd rfl (k _ _ _ _ _ hr)
  · cases hs
    exact lv_dup hx hb hd rfl (k _ _ _ _ _ hr)
  · cases hs
theorem mj_s_dup2 {r1 r2 r3 r4 r5 : Nat} (C : mj_Ctx p s m args meth c y cc nL B b D dA) (hd : decode cc pc = .ok (.dup2, mj_len (.dup2))) (ho : mj_okS y pc (.dup2) r1 r2 r3 r4 r5 = true) {pc' : Nat} {loc' : mj_L} {st' : List Value} {h' : mj_H} (hs : mj_step (.dup2) r1 r2 r3 mj_new pc loc st h = some (pc', loc', st', h')) (hr : mj_Rel B b D dA s nL n0 s0 loc h ls H locs cells slots)
    (hcl : h'.length ≤ n0 + R.cells) (hsl : mj_sl h' ≤ s0 + R.slots)
    (k : ∀ (ls' : Array Slot) (H' : Heap) (locs' : List Loc) (cells' slots' : Nat), mj_Rel B b D dA s nL n0 s0 loc' h' ls' H' locs' cells' slots' → W p l e R s m args below meth c H' locs' cells' slots' Q (F0 m pc' ls' (st'.map (mj_rv B b)))) :
    W p l e R s m args below meth c H locs cells slots Q (F0 m pc ls (st.map (mj_rv B b))) := by
  obtain ⟨hx, hb, hml, hown, hts, hK, hB, hbB, hlk, hin⟩ := C
  simp only [mj_step] at hs
  split at hs
  · cases hs
    exact lv_dup2_11 hx hb hd rfl rfl (k _ _ _ _ _ hr)
  · cases hs
theorem mj_s_pop {r1 r2 r3 r4 r5 : Nat} (C : mj_Ctx p s m args meth c y cc nL B b D dA) (hd : decode cc pc = .ok (.pop, mj_len (.pop))) (ho : mj_okS y pc (.pop) r1 r2 r3 r4 r5 = true) {pc' : Nat} {loc' : mj_L} {st' : List Value} {h' : mj_H} (hs : mj_step (.pop) r1 r2 r3 mj_new pc loc st h = some (pc', loc', st', h')) (hr : mj_Rel B b D dA s nL n0 s0 loc h ls H locs cells slots)
    (hcl : h'.length ≤ n0 + R.cells) (hsl : mj_sl h' ≤ s0 + R.slots)
    (k : ∀ (ls' : Array Slot) (H' : Heap) (locs' : List Loc) (cells' slots' : Nat), mj_Rel B b D dA s nL n0 s0 loc' h' ls' H' locs' cells' slots' → W p l e R s m args below meth c H' locs' cells' slots' Q (F0 m pc' ls' (st'.map (mj_rv B b)))) :
    W p l e R s m args below meth c H locs cells slots Q (F0 m pc ls (st.map (mj_rv B b))) := by
  obtain ⟨hx, hb, hml, hown, hts, hK, hB, hbB, hlk, hin⟩ := C
  simp only [mj_step] at hs
  split at hs
  · cases hs
    exact lv_pop hx hb hd rfl (k _ _ _ _ _ hr)
  · cases hs
    exact lv_pop hx hb hd rfl (k _ _ _ _ _ hr)
  · cases hs
theorem mj_s_pop2 {r1 r2 r3 r4 r5 : Nat} (C : mj_Ctx p s m args meth c y cc nL B b D dA) (hd : decode cc pc = .ok (.pop2, mj_len (.pop2))) (ho : mj_okS y pc (.pop2) r1 r2 r3 r4 r5 = true) {pc' : Nat} {loc' : mj_L} {st' : List Value} {h' : mj_H} (hs : mj_step (.pop2) r1 r2 r3 mj_new pc loc st h = some (pc', loc', st', h')) (hr : mj_Rel B b D dA s nL n0 s0 loc h ls H locs cells slots)
    (hcl : h'.length ≤ n0 + R.cells) (hsl : mj_sl h' ≤ s0 + R.slots)
    (k : ∀ (ls' : Array Slot) (H' : Heap) (locs' : List Loc) (cells' slots' : Nat), mj_Rel B b D dA s nL n0 s0 loc' h' ls' H' locs' cells' slots' → W p l e R s m args below meth c H' locs' cells' slots' Q (F0 m pc' ls' (st'.map (mj_rv B b)))) :
    W p l e R s m args below meth c H locs cells slots Q (F0 m pc ls (st.map (mj_rv B b))) := by
  obtain ⟨hx, hb, hml, hown, hts, hK, hB, hbB, hlk, hin⟩ := C
  simp only [mj_step] at hs
  split at hs
  · cases hs
    exact lv_pop2_2 hx hb hd rfl (k _ _ _ _ _ hr)
  · cases hs
    exact lv_pop2_2 hx hb hd rfl (k _ _ _ _ _ hr)
  · cases hs
theorem mj_s_ldc {r1 r2 r3 r4 r5 : Nat} {i : Nat} (C : mj_Ctx p s m args meth c y cc nL B b D dA) (hd : decode cc pc = .ok (.ldc i, mj_len (.ldc i))) (ho : mj_okS y pc (.ldc i) r1 r2 r3 r4 r5 = true) {pc' : Nat} {loc' : mj_L} {st' : List Value} {h' : mj_H} (hs : mj_step (.ldc i) r1 r2 r3 mj_new pc loc st h = some (pc', loc', st', h')) (hr : mj_Rel B b D dA s nL n0 s0 loc h ls H locs cells slots)
    (hcl : h'.length ≤ n0 + R.cells) (hsl : mj_sl h' ≤ s0 + R.slots)
    (k : ∀ (ls' : Array Slot) (H' : Heap) (locs' : List Loc) (cells' slots' : Nat), mj_Rel B b D dA s nL n0 s0 loc' h' ls' H' locs' cells' slots' → W p l e R s m args below meth c H' locs' cells' slots' Q (F0 m pc' ls' (st'.map (mj_rv B b)))) :
    W p l e R s m args below meth c H locs cells slots Q (F0 m pc ls (st.map (mj_rv B b))) := by
  obtain ⟨hx, hb, hml, hown, hts, hK, hB, hbB, hlk, hin⟩ := C
  simp only [mj_step] at hs
  cases r2 with
  | zero =>
    cases hs
    exact lv_ldc hx hb hown (hts _ (mj_w_of ho).1 (mj_w_of ho).2) hd (k _ _ _ _ _ hr)
  | succ z =>
    cases hs
    exact lv_ldcf hx hb hown (hts _ (mj_w_of ho).1 (mj_w_of ho).2) hd (k _ _ _ _ _ hr)
theorem mj_s_ldc_w {r1 r2 r3 r4 r5 : Nat} {i : Nat} (C : mj_Ctx p s m args meth c y cc nL B b D dA) (hd : decode cc pc = .ok (.ldc_w i, mj_len (.ldc_w i))) (ho : mj_okS y pc (.ldc_w i) r1 r2 r3 r4 r5 = true) {pc' : Nat} {loc' : mj_L} {st' : List Value} {h' : mj_H} (hs : mj_step (.ldc_w i) r1 r2 r3 mj_new pc loc st h = some (pc', loc', st', h')) (hr : mj_Rel B b D dA s nL n0 s0 loc h ls H locs cells slots)
    (hcl : h'.length ≤ n0 + R.cells) (hsl : mj_sl h' ≤ s0 + R.slots)
    (k : ∀ (ls' : Array Slot) (H' : Heap) (locs' : List Loc) (cells' slots' : Nat), mj_Rel B b D dA s nL n0 s0 loc' h' ls' H' locs' cells' slots' → W p l e R s m args below meth c H' locs' cells' slots' Q (F0 m pc' ls' (st'.map (mj_rv B b)))) :
    W p l e R s m args below meth c H locs cells slots Q (F0 m pc ls (st.map (mj_rv B b))) := by
  obtain ⟨hx, hb, hml, hown, hts, hK, hB, hbB, hlk, hin⟩ := C
  simp only [mj_step] at hs
  cases r2 with
  | zero =>
    cases hs
    exact lv_ldcw hx hb hown (hts _ (mj_w_of ho).1 (mj_w_of ho).2) hd (k _ _ _ _ _ hr)
  | succ z =>
    cases hs
    exact mj_ldcwF hx hb hown (hts _ (mj_w_of ho).1 (mj_w_of ho).2) hd (k _ _ _ _ _ hr)
theorem mj_s_ldc2_w {r1 r2 r3 r4 r5 : Nat} {i : Nat} (C : mj_Ctx p s m args meth c y cc nL B b D dA) (hd : decode cc pc = .ok (.ldc2_w i, mj_len (.ldc2_w i))) (ho : mj_okS y pc (.ldc2_w i) r1 r2 r3 r4 r5 = true) {pc' : Nat} {loc' : mj_L} {st' : List Value} {h' : mj_H} (hs : mj_step (.ldc2_w i) r1 r2 r3 mj_new pc loc st h = some (pc', loc', st', h')) (hr : mj_Rel B b D dA s nL n0 s0 loc h ls H locs cells slots)
    (hcl : h'.length ≤ n0 + R.cells) (hsl : mj_sl h' ≤ s0 + R.slots)
    (k : ∀ (ls' : Array Slot) (H' : Heap) (locs' : List Loc) (cells' slots' : Nat), mj_Rel B b D dA s nL n0 s0 loc' h' ls' H' locs' cells' slots' → W p l e R s m args below meth c H' locs' cells' slots' Q (F0 m pc' ls' (st'.map (mj_rv B b)))) :
    W p l e R s m args below meth c H locs cells slots Q (F0 m pc ls (st.map (mj_rv B b))) := by
  obtain ⟨hx, hb, hml, hown, hts, hK, hB, hbB, hlk, hin⟩ := C
  simp only [mj_step] at hs
  cases r2 with
  | zero =>
    cases hs
    exact lv_ldc2 hx hb hown (hts _ (mj_w_of ho).1 (mj_w_of ho).2) hd (k _ _ _ _ _ hr)
  | succ z =>
    cases hs
    exact lv_ldc2d hx hb hown (hts _ (mj_w_of ho).1 (mj_w_of ho).2) hd (k _ _ _ _ _ hr)
end MJS
end
section
/-! The steps that touch cells. -/
theorem mj_cl_ne {ci : Nat} {q : vw_C} (h : mj_cl[ci]? = some q) : ci ≠ 99 := by
  have h1 := (List.getElem?_eq_some_iff.mp h).1
  intro h2
  subst h2
  exact absurd h1 (by decide)
theorem mj_in_of {i : Int32} {n : Nat} (h : mj_in i n = true) : ¬ (i < 0 ∨ n ≤ i.toNatClampNeg) := by
  unfold mj_in at h
  rw [Bool.and_eq_true, decide_eq_true_eq] at h
  intro q
  rcases q with q | q
  · have h1 := h.1
    rw [Int32.le_iff_toInt_le] at h1
    rw [Int32.lt_iff_toInt_lt] at q
    omega
  · have h2 := Nat.blt_eq.mp h.2
    omega
theorem mj_in_lt {i : Int32} {n : Nat} (h : mj_in i n = true) : i.toNatClampNeg < n := by
  have h1 := mj_in_of h
  exact Nat.not_le.mp fun q => h1 (Or.inr q)
theorem mj_not_lt {i : Int32} (h : 0 ≤ i) : ¬ i < 0 := by
  intro q
  rw [Int32.le_iff_toInt_le] at h
  rw [Int32.lt_iff_toInt_lt] at q
  omega
theorem mj_fit_ok {B b : Nat} {ty : FieldType} {v : Value} (hty : ty = .int ∨ ty = .long ∨ ty = .boolean ∨ (∃ n, ty = .object n) ∨ ∃ t, ty = .array t) (h : mj_fit (mj_kd ty) v = true) : narrow ty (mj_rv B b v) = mj_rv B b v ∧ fits ty (mj_rv B b v) = true := by
  rcases hty with rfl | rfl | rfl | ⟨n, rfl⟩ | ⟨t, rfl⟩ <;> cases v <;> simp only [mj_kd, mj_fit] at h <;> first
    | exact ⟨rfl, rfl⟩
    | (exact absurd h Bool.false_ne_true)
    | skip
  rename_i x
  rw [Bool.or_eq_true, decide_eq_true_eq, decide_eq_true_eq] at h
  rcases h with rfl | rfl <;> exact ⟨rfl, rfl⟩
def mj_tyok (ty : FieldType) : Bool := match ty with
  | .int => true
  | .long => true
  | .boolean => true
  | .object _ => true
  | .array _ => true
  | _ => false
theorem mj_tyok_of {ty : FieldType} (h : mj_tyok ty = true) : ty = .int ∨ ty = .long ∨ ty = .boolean ∨ (∃ n, ty = .object n) ∨ ∃ t, ty = .array t := by
  cases ty <;> simp_all [mj_tyok]
theorem mj_ft_ok : ((List.range 11).all fun ci => (List.range (mj_nc ci)).all fun k => mj_tyok (mj_ft ci k)) = true := by decide +kernel
theorem mj_ft_of {ci k : Nat} (h : ci < 11) (hk : k < mj_nc ci) : mj_tyok (mj_ft ci k) = true := List.all_eq_true.mp (List.all_eq_true.mp mj_ft_ok ci (List.mem_range.mpr h)) k (List.mem_range.mpr hk)
theorem mj_tys_at (dA : Nat → ClassId) {t : Nat} (h : t ≤ 6) : (mj_tys dA)[t]? = some (dA t, mj_tt t) := by
  match t, h with
  | 0, _ => rfl
  | 1, _ => rfl
  | 2, _ => rfl
  | 3, _ => rfl
  | 4, _ => rfl
  | 5, _ => rfl
  | 6, _ => rfl
section MJH
variable {p : Program} {l : Launch} {e : Env} {R : Room} {s : State} {m : MethodId} {args : Array Value} {below : List Frame} {meth : Method} {c : Code} {H : Heap} {locs : List Loc} {cells slots : Nat} {Q : State → Prop}
variable {y : MethodName} {cc : ByteArray} {nL B b n0 s0 : Nat} {D : va_G} {dA : Nat → ClassId} {pc : Nat} {loc : mj_L} {st : List Value} {h : mj_H} {ls : Array Slot}
theorem mj_Rel.putE {a : Nat} {e0 e1 : mj_E} {H1 : Heap} {k : Nat} (hbB : b < B) (hr : mj_Rel B b D dA s nL n0 s0 loc h ls H locs cells slots) (ha : a ≠ 0) (he : h[a]? = some e0) (hs : mj_slot e1 = mj_slot e0) (hat : mj_at B b D dA s (mj_ad B b a) e1 H1) (hz : H1.size = H.size) (ho : ∀ q, q ≠ mj_ad B b a → H1[q]? = H[q]?) :
    mj_Rel B b D dA s nL n0 s0 loc (h.set a e1) ls H1 (locs ++ [⟨mj_ad B b a, k⟩]) cells slots :=
  ⟨hr.1.set hbB ha hat hz ho, hr.2.1, hr.2.2.1.put hz ho (mj_ad_ge ha), by rw [List.length_set]; exact hr.2.2.2.1, by rw [mj_sl_set he hs]; exact hr.2.2.2.2⟩
theorem mj_Rel.pushE {e1 : mj_E} {H1 : Heap} (hB : B ≤ s.heap.size) (hbB : b < B) (hr : mj_Rel B b D dA s nL n0 s0 loc h ls H locs cells slots) (hat : mj_at B b D dA s H.size e1 H1) (hz : H1.size = H.size + 1) (ho : ∀ q, q < H.size → H1[q]? = H[q]?) :
    mj_Rel B b D dA s nL n0 s0 loc (h ++ [e1]) ls H1 locs (cells + 1) (slots + mj_slot e1) ∧ mj_ad B b h.length = H.size := by
  obtain ⟨h1, h2⟩ := hr.1.push hbB hat hz ho
  refine ⟨⟨h1, hr.2.1, ⟨Nat.le_trans hr.2.2.1.1 (by omega), fun q hq hA => (ho q (Nat.lt_of_lt_of_le hq hr.2.2.1.1)).trans (hr.2.2.1.2.1 q hq hA), hr.2.2.1.2.2⟩, ?_, ?_⟩, h2⟩
  · rw [List.length_append]
    have := hr.2.2.2.1
    simp
    omega
  · rw [mj_sl_push]
    have := hr.2.2.2.2
    omega
theorem mj_Rel.ne0 {a : Nat} {e0 : mj_E} (hr : mj_Rel B b D dA s nL n0 s0 loc h ls H locs cells slots) (he : h[a]? = some e0) (hn : ∀ L xs, e0 ≠ .inl (100, L, xs)) : a ≠ 0 := by
  intro h0
  subst h0
  obtain ⟨L, xs, hx⟩ := hr.1.2.1
  rw [hx] at he
  exact hn L xs (Option.some.inj he).symm

theorem mj_s_getfield {r1 r2 r3 r4 r5 : Nat} {i : Nat} (C : mj_Ctx p s m args meth c y cc nL B b D dA) (hd : decode cc pc = .ok (.getfield i, mj_len (.getfield i))) (ho : mj_okS y pc (.getfield i) r1 r2 r3 r4 r5 = true) {pc' : Nat} {loc' : mj_L} {st' : List Value} {h' : mj_H} (hs : mj_step (.getfield i) r1 r2 r3 mj_new pc loc st h = some (pc', loc', st', h')) (hr : mj_Rel B b D dA s nL n0 s0 loc h ls H locs cells slots)
    (hcl : h'.length ≤ n0 + R.cells) (hsl : mj_sl h' ≤ s0 + R.slots)
    (k : ∀ (ls' : Array Slot) (H' : Heap) (locs' : List Loc) (cells' slots' : Nat), mj_Rel B b D dA s nL n0 s0 loc' h' ls' H' locs' cells' slots' → W p l e R s m args below meth c H' locs' cells' slots' Q (F0 m pc' ls' (st'.map (mj_rv B b)))) :
    W p l e R s m args below meth c H locs cells slots Q (F0 m pc ls (st.map (mj_rv B b))) := by
  obtain ⟨hx, hb, hml, hown, hts, hK, hB, hbB, hlk, hin⟩ := C
  simp only [mj_step] at hs
  split at hs
  · rename_i a st0
    split at hs
    · rename_i ci fs he
      split at hs
      · rename_i hci
        subst hci
        split at hs
        · rename_i v hv
          cases hs
          simp only [mj_okS] at ho
          split at ho
          · rename_i q hq
            rw [Bool.and_eq_true, decide_eq_true_eq] at ho
            obtain ⟨hk, hlk2⟩ := ho
            obtain ⟨C, T, N⟩ := q
            obtain ⟨r, h1, h2, h3⟩ := hr.1.2.2 _ _ he (mj_cl_ne hq)
            cases h1.symm.trans hq
            have hc := mj_cls hq
            have htu : ∀ w ∈ u_ws C T N, w.before args s = true := fun w hw => hts w (hc.1 w hw).1 (hc.1 w hw).2
            have hP : va_P D mj_cl [(mj_ad B b a, .inr (ci, fs.map (mj_rv B b)))] H := fun k q hk => by
              have hz : k < 1 := (List.getElem?_eq_some_iff.mp hk).1
              rw [show k = 0 by omega] at hk
              cases hk
              exact ⟨_, hq, h3⟩
            have hv2 : (fs.map (mj_rv B b))[r2]? = some (mj_rv B b v) := by rw [List.getElem?_map, hv]; rfl
            cases r5 with
            | zero => exact va_get hx hb htu (fun w h => h) hown hK hP 0 rfl hq r2 hk (hts _ (mj_w_of hlk2).1 (mj_w_of hlk2).2) (fun x h => h) hv2 hd (k _ _ _ _ _ hr)
            | succ z => exact va_getN hx hb htu (fun w h => h) hown hK hP 0 rfl hq r2 hk (hts _ (mj_w_of hlk2).1 (mj_w_of hlk2).2) (fun x h => h) hv2 hd (k _ _ _ _ _ hr)
          · cases ho
        · cases hs
      · cases hs
    · cases hs
  · cases hs
theorem mj_s_putfield {r1 r2 r3 r4 r5 : Nat} {i : Nat} (C : mj_Ctx p s m args meth c y cc nL B b D dA) (hd : decode cc pc = .ok (.putfield i, mj_len (.putfield i))) (ho : mj_okS y pc (.putfield i) r1 r2 r3 r4 r5 = true) {pc' : Nat} {loc' : mj_L} {st' : List Value} {h' : mj_H} (hs : mj_step (.putfield i) r1 r2 r3 mj_new pc loc st h = some (pc', loc', st', h')) (hr : mj_Rel B b D dA s nL n0 s0 loc h ls H locs cells slots)
    (hcl : h'.length ≤ n0 + R.cells) (hsl : mj_sl h' ≤ s0 + R.slots)
    (k : ∀ (ls' : Array Slot) (H' : Heap) (locs' : List Loc) (cells' slots' : Nat), mj_Rel B b D dA s nL n0 s0 loc' h' ls' H' locs' cells' slots' → W p l e R s m args below meth c H' locs' cells' slots' Q (F0 m pc' ls' (st'.map (mj_rv B b)))) :
    W p l e R s m args below meth c H locs cells slots Q (F0 m pc ls (st.map (mj_rv B b))) := by
  obtain ⟨hx, hb, hml, hown, hts, hK, hB, hbB, hlk, hin⟩ := C
  simp only [mj_step] at hs
  split at hs
  · rename_i v a st0
    split at hs
    · rename_i ci fs he
      split at hs
      · rename_i hcond
        obtain ⟨hci, hlen, hfit⟩ := hcond
        subst hci
        cases hs
        simp only [mj_okS] at ho
        split at ho
        · rename_i q hq
          simp only [Bool.and_eq_true, decide_eq_true_eq] at ho
          obtain ⟨⟨⟨hk, hlk2⟩, hkd⟩, hfin2⟩ := ho
          obtain ⟨C, T, N⟩ := q
          obtain ⟨r, h1, h2, h3⟩ := hr.1.2.2 _ _ he (mj_cl_ne hq)
          cases h1.symm.trans hq
          have hc := mj_cls hq
          have htu : ∀ w ∈ u_ws C T N, w.before args s = true := fun w hw => hts w (hc.1 w hw).1 (hc.1 w hw).2
          have hap := va_apart (own := y.cls) htu (fun w h => h) (mj_ft ci) hc.2.1 hc.2.2.1 hK hq
          have hci11 : ci < 11 := (List.getElem?_eq_some_iff.mp hq).1
          have hkN : r2 < mj_nc ci := by rw [← hc.2.2.2.2.2]; exact hk
          subst hkd
          obtain ⟨hn, hfit2⟩ := mj_fit_ok (B := B) (b := b) (mj_tyok_of (mj_ft_of hci11 hkN)) hfit
          have ha0 := hr.ne0 he (fun L xs h => by cases h)
          obtain ⟨cell, q1, q2, q3, q4⟩ := h3
          obtain ⟨hS, hfc, kC, hkC, hkind⟩ := hK.1 ci _ hq
          obtain ⟨cf, kf, fi, f, hi, hsl2⟩ := hS r2 hk
          have hlay := htu _ (u_in_lay hk)
          have hlt : f.slot < cell.slots.size := by rw [hsl2]; exact k2_hasslot (q4 r2 hk)
          have hgo : ∀ H' : Heap, H'[mj_ad B b a]? = some (cell.setSlot f.slot (mj_rv B b v)) → H'.size = H.size → (∀ q, q ≠ mj_ad B b a → H'[q]? = H[q]?) → W p l e R s m args below meth c H' (locs ++ [⟨mj_ad B b a, f.slot⟩]) cells slots Q (F0 m (pc + 3) ls (st'.map (mj_rv B b))) := by
            intro H' e1 e2 e3
            refine k _ _ _ _ _ (hr.putE hbB ha0 he (by simp [mj_slot]) ?_ e2 e3)
            intro _
            refine ⟨_, hq, by rw [List.length_set]; exact h2, ?_⟩
            rw [hsl2] at e1
            refine t_OB.to (V := updV (vp_V (fs.map (mj_rv B b))) r2 (mj_rv B b v)) ⟨_, e1, q2, q3, t_set q4 hap hk _⟩ (fun j _ => ?_)
            rw [vp_updV_set (by rw [List.length_map]; exact hlen), List.map_set]
          cases hfin : (T r2).2.2.2 with
          | false =>
            unfold u_lay at hlay
            rw [if_neg (by rw [hfin]; decide)] at hlay
            have hst := (u_facts hfc hkC (Or.inl hlay) hi).1
            have h6 := u_store hfc hkC hkind hlay hi (hc.2.1 r2 hk) hn hfit2
            cases r5 with
            | zero => exact W.putK hx hb (f := f) ⟨hown, hts _ (mj_w_of hlk2).1 (mj_w_of hlk2).2, ⟨_, _, _, hi⟩, hst⟩ (by rw [q2]; exact h6) q1 q3 hlt rfl rfl hd hgo
            | succ z => exact va_WputK hx hb (f := f) hown (hts _ (mj_w_of hlk2).1 (mj_w_of hlk2).2) hi hst (by rw [q2]; exact h6) q1 q3 hlt rfl rfl hd hgo
          | true =>
            unfold u_lay at hlay
            rw [if_pos hfin] at hlay
            have hst := (u_facts hfc hkC (Or.inr hlay) hi).1
            rw [hfin] at hfin2
            simp only [Bool.not_true, Bool.false_or, Bool.and_eq_true, decide_eq_true_eq] at hfin2
            obtain ⟨⟨hy1, hy2⟩, hy3⟩ := hfin2
            subst hy3
            have hcf : m.cls = cf := by
              obtain ⟨_, _, c', _, _, _, -, -, hf', -, -, -, hown2, -⟩ := Cond.laysFinal_spec hlay
              have e1 : c' = cf := by have := hi.symm.trans hf'; simp at this; exact this.1.symm
              rw [hy2] at hown2
              rw [← e1]; exact Option.some.inj (hown.symm.trans hown2)
            have h6 := u_fits hfc hkC hkind (Or.inr hlay) hi (hc.2.1 r2 hk) hn hfit2
            exact W.putFinK hx hb hown (hts _ (mj_w_of hlk2).1 (mj_w_of hlk2).2) hi hst hcf (hin hy1) (by rw [q2]; exact h6) q1 q3 hlt rfl rfl hd hgo
        · cases ho
      · cases hs
    · cases hs
  · cases hs
theorem mj_s_arraylength {r1 r2 r3 r4 r5 : Nat} (C : mj_Ctx p s m args meth c y cc nL B b D dA) (hd : decode cc pc = .ok (.arraylength, mj_len (.arraylength))) (ho : mj_okS y pc (.arraylength) r1 r2 r3 r4 r5 = true) {pc' : Nat} {loc' : mj_L} {st' : List Value} {h' : mj_H} (hs : mj_step (.arraylength) r1 r2 r3 mj_new pc loc st h = some (pc', loc', st', h')) (hr : mj_Rel B b D dA s nL n0 s0 loc h ls H locs cells slots)
    (hcl : h'.length ≤ n0 + R.cells) (hsl : mj_sl h' ≤ s0 + R.slots)
    (k : ∀ (ls' : Array Slot) (H' : Heap) (locs' : List Loc) (cells' slots' : Nat), mj_Rel B b D dA s nL n0 s0 loc' h' ls' H' locs' cells' slots' → W p l e R s m args below meth c H' locs' cells' slots' Q (F0 m pc' ls' (st'.map (mj_rv B b)))) :
    W p l e R s m args below meth c H locs cells slots Q (F0 m pc ls (st.map (mj_rv B b))) := by
  obtain ⟨hx, hb, hml, hown, hts, hK, hB, hbB, hlk, hin⟩ := C
  simp only [mj_step] at hs
  split at hs
  · rename_i a st0
    split at hs
    · rename_i t n f he
      cases hs
      have hat := hr.1.2.2 _ _ he
      by_cases ht : t = 100
      · obtain ⟨scr, e1, e2, e3, e4, e5⟩ := hat.1 ht
        exact W.alen hx hb e1 e2 (by rw [e4]; rfl) rfl rfl hd (k _ _ _ _ _ hr)
      · obtain ⟨ht6, e1⟩ := hat.2 ht
        exact W.alen hx hb e1 ((hK.2 t _ (mj_tys_at dA ht6)).1 n _) (by rw [arrV_size]; rfl) rfl rfl hd (k _ _ _ _ _ hr)
    · cases hs
  · cases hs
theorem mj_s_laload {r1 r2 r3 r4 r5 : Nat} (C : mj_Ctx p s m args meth c y cc nL B b D dA) (hd : decode cc pc = .ok (.laload, mj_len (.laload))) (ho : mj_okS y pc (.laload) r1 r2 r3 r4 r5 = true) {pc' : Nat} {loc' : mj_L} {st' : List Value} {h' : mj_H} (hs : mj_step (.laload) r1 r2 r3 mj_new pc loc st h = some (pc', loc', st', h')) (hr : mj_Rel B b D dA s nL n0 s0 loc h ls H locs cells slots)
    (hcl : h'.length ≤ n0 + R.cells) (hsl : mj_sl h' ≤ s0 + R.slots)
    (k : ∀ (ls' : Array Slot) (H' : Heap) (locs' : List Loc) (cells' slots' : Nat), mj_Rel B b D dA s nL n0 s0 loc' h' ls' H' locs' cells' slots' → W p l e R s m args below meth c H' locs' cells' slots' Q (F0 m pc' ls' (st'.map (mj_rv B b)))) :
    W p l e R s m args below meth c H locs cells slots Q (F0 m pc ls (st.map (mj_rv B b))) := by
  obtain ⟨hx, hb, hml, hown, hts, hK, hB, hbB, hlk, hin⟩ := C
  simp only [mj_step] at hs
  split at hs
  · rename_i i a st0
    split at hs
    · rename_i t n f he
      split at hs
      · rename_i hcond
        obtain ⟨ht, hin2⟩ := hcond
        cases hs
        have hat := hr.1.2.2 _ _ he
        subst ht
        obtain ⟨ht6, e1⟩ := hat.2 (by decide)
        exact W.lald hx hb e1 ((hK.2 1 _ (mj_tys_at dA ht6)).1 n _) (fun q => by cases q) (by rw [arrV_size]; exact mj_in_of hin2) (arrV_read _ _ (mj_in_lt hin2)) rfl rfl hd (k _ _ _ _ _ hr)
      · cases hs
    · cases hs
  · cases hs
theorem mj_s_baload {r1 r2 r3 r4 r5 : Nat} (C : mj_Ctx p s m args meth c y cc nL B b D dA) (hd : decode cc pc = .ok (.baload, mj_len (.baload))) (ho : mj_okS y pc (.baload) r1 r2 r3 r4 r5 = true) {pc' : Nat} {loc' : mj_L} {st' : List Value} {h' : mj_H} (hs : mj_step (.baload) r1 r2 r3 mj_new pc loc st h = some (pc', loc', st', h')) (hr : mj_Rel B b D dA s nL n0 s0 loc h ls H locs cells slots)
    (hcl : h'.length ≤ n0 + R.cells) (hsl : mj_sl h' ≤ s0 + R.slots)
    (k : ∀ (ls' : Array Slot) (H' : Heap) (locs' : List Loc) (cells' slots' : Nat), mj_Rel B b D dA s nL n0 s0 loc' h' ls' H' locs' cells' slots' → W p l e R s m args below meth c H' locs' cells' slots' Q (F0 m pc' ls' (st'.map (mj_rv B b)))) :
    W p l e R s m args below meth c H locs cells slots Q (F0 m pc ls (st.map (mj_rv B b))) := by
  obtain ⟨hx, hb, hml, hown, hts, hK, hB, hbB, hlk, hin⟩ := C
  simp only [mj_step] at hs
  split at hs
  · rename_i i a st0
    split at hs
    · rename_i t n f he
      split at hs
      · rename_i hcond
        obtain ⟨ht, hin2⟩ := hcond
        cases hs
        have hat := hr.1.2.2 _ _ he
        subst ht
        obtain ⟨ht6, e1⟩ := hat.2 (by decide)
        exact W.bald hx hb e1 ((hK.2 2 _ (mj_tys_at dA ht6)).1 n _) (fun q => by cases q) (by rw [arrV_size]; exact mj_in_of hin2) (arrV_read _ _ (mj_in_lt hin2)) rfl rfl hd (k _ _ _ _ _ hr)
      · cases hs
    · cases hs
  · cases hs
theorem mj_s_iaload {r1 r2 r3 r4 r5 : Nat} (C : mj_Ctx p s m args meth c y cc nL B b D dA) (hd : decode cc pc = .ok (.iaload, mj_len (.iaload))) (ho : mj_okS y pc (.iaload) r1 r2 r3 r4 r5 = true) {pc' : Nat} {loc' : mj_L} {st' : List Value} {h' : mj_H} (hs : mj_step (.iaload) r1 r2 r3 mj_new pc loc st h = some (pc', loc', st', h')) (hr : mj_Rel B b D dA s nL n0 s0 loc h ls H locs cells slots)
    (hcl : h'.length ≤ n0 + R.cells) (hsl : mj_sl h' ≤ s0 + R.slots)
    (k : ∀ (ls' : Array Slot) (H' : Heap) (locs' : List Loc) (cells' slots' : Nat), mj_Rel B b D dA s nL n0 s0 loc' h' ls' H' locs' cells' slots' → W p l e R s m args below meth c H' locs' cells' slots' Q (F0 m pc' ls' (st'.map (mj_rv B b)))) :
    W p l e R s m args below meth c H locs cells slots Q (F0 m pc ls (st.map (mj_rv B b))) := by
  obtain ⟨hx, hb, hml, hown, hts, hK, hB, hbB, hlk, hin⟩ := C
  simp only [mj_step] at hs
  split at hs
  · rename_i i a st0
    split at hs
    · rename_i t n f he
      split at hs
      · rename_i hcond
        obtain ⟨ht, hin2⟩ := hcond
        cases hs
        have hat := hr.1.2.2 _ _ he
        rcases ht with ht | ht
        · subst ht
          obtain ⟨ht6, e1⟩ := hat.2 (by decide)
          exact W.iald hx hb e1 ((hK.2 0 _ (mj_tys_at dA ht6)).1 n _) (fun q => by cases q) (by rw [arrV_size]; exact mj_in_of hin2) (arrV_read _ _ (mj_in_lt hin2)) rfl rfl hd (k _ _ _ _ _ hr)
        · obtain ⟨scr, e1, e2, e3, e4, e5⟩ := hat.1 ht
          exact W.iald hx hb e1 e2 e3 (by rw [e4]; exact mj_in_of hin2) (e5 _ (mj_in_lt hin2)) rfl rfl hd (k _ _ _ _ _ hr)
      · cases hs
    · cases hs
  · cases hs
theorem mj_s_aaload {r1 r2 r3 r4 r5 : Nat} (C : mj_Ctx p s m args meth c y cc nL B b D dA) (hd : decode cc pc = .ok (.aaload, mj_len (.aaload))) (ho : mj_okS y pc (.aaload) r1 r2 r3 r4 r5 = true) {pc' : Nat} {loc' : mj_L} {st' : List Value} {h' : mj_H} (hs : mj_step (.aaload) r1 r2 r3 mj_new pc loc st h = some (pc', loc', st', h')) (hr : mj_Rel B b D dA s nL n0 s0 loc h ls H locs cells slots)
    (hcl : h'.length ≤ n0 + R.cells) (hsl : mj_sl h' ≤ s0 + R.slots)
    (k : ∀ (ls' : Array Slot) (H' : Heap) (locs' : List Loc) (cells' slots' : Nat), mj_Rel B b D dA s nL n0 s0 loc' h' ls' H' locs' cells' slots' → W p l e R s m args below meth c H' locs' cells' slots' Q (F0 m pc' ls' (st'.map (mj_rv B b)))) :
    W p l e R s m args below meth c H locs cells slots Q (F0 m pc ls (st.map (mj_rv B b))) := by
  obtain ⟨hx, hb, hml, hown, hts, hK, hB, hbB, hlk, hin⟩ := C
  simp only [mj_step] at hs
  split at hs
  · rename_i i a st0
    split at hs
    · rename_i t n f he
      split at hs
      · rename_i hcond
        obtain ⟨ht, hin2⟩ := hcond
        cases hs
        have hat := hr.1.2.2 _ _ he
        obtain ⟨ht6, e1⟩ := hat.2 (fun q => by rw [q] at ht; exact absurd ht (by decide))
        exact W.aald (ty := mj_tt t) hx hb e1 ((hK.2 t _ (mj_tys_at dA ht6)).1 n _) (by
          match t, ht with
          | 3, _ => rfl
          | 4, _ => rfl
          | 5, _ => rfl
          | 6, _ => rfl) (fun q => by cases q) (by rw [arrV_size]; exact mj_in_of hin2) (arrV_read _ _ (mj_in_lt hin2)) rfl rfl hd (k _ _ _ _ _ hr)
      · cases hs
    · cases hs
  · cases hs
theorem mj_s_iastore {r1 r2 r3 r4 r5 : Nat} (C : mj_Ctx p s m args meth c y cc nL B b D dA) (hd : decode cc pc = .ok (.iastore, mj_len (.iastore))) (ho : mj_okS y pc (.iastore) r1 r2 r3 r4 r5 = true) {pc' : Nat} {loc' : mj_L} {st' : List Value} {h' : mj_H} (hs : mj_step (.iastore) r1 r2 r3 mj_new pc loc st h = some (pc', loc', st', h')) (hr : mj_Rel B b D dA s nL n0 s0 loc h ls H locs cells slots)
    (hcl : h'.length ≤ n0 + R.cells) (hsl : mj_sl h' ≤ s0 + R.slots)
    (k : ∀ (ls' : Array Slot) (H' : Heap) (locs' : List Loc) (cells' slots' : Nat), mj_Rel B b D dA s nL n0 s0 loc' h' ls' H' locs' cells' slots' → W p l e R s m args below meth c H' locs' cells' slots' Q (F0 m pc' ls' (st'.map (mj_rv B b)))) :
    W p l e R s m args below meth c H locs cells slots Q (F0 m pc ls (st.map (mj_rv B b))) := by
  obtain ⟨hx, hb, hml, hown, hts, hK, hB, hbB, hlk, hin⟩ := C
  simp only [mj_step] at hs
  split at hs
  · rename_i x i a st0
    split at hs
    · rename_i t n f he
      split at hs
      · rename_i hcond
        obtain ⟨ht, hin2⟩ := hcond
        cases hs
        have hat := hr.1.2.2 _ _ he
        subst ht
        obtain ⟨ht6, e1⟩ := hat.2 (by decide)
        have ha0 := hr.ne0 he (fun L xs h => by cases h)
        refine W.iast hx hb e1 ((hK.2 0 _ (mj_tys_at dA ht6)).1 n _) (fun q => by cases q) (by rw [arrV_size]; exact mj_in_of hin2) rfl rfl hd (fun H' f1 f2 f3 => k _ _ _ _ _ (hr.putE hbB ha0 he rfl ?_ f2 f3))
        refine ⟨fun h => absurd h (by decide), fun _ => ⟨by decide, ?_⟩⟩
        rw [f1, arrV_store]
        congr 2
        funext j
        by_cases hj : j = i.toNatClampNeg
        · simp only [updV, hj, if_true]; rfl
        · simp only [updV, hj, if_false]
      · cases hs
    · cases hs
  · cases hs
theorem mj_s_lastore {r1 r2 r3 r4 r5 : Nat} (C : mj_Ctx p s m args meth c y cc nL B b D dA) (hd : decode cc pc = .ok (.lastore, mj_len (.lastore))) (ho : mj_okS y pc (.lastore) r1 r2 r3 r4 r5 = true) {pc' : Nat} {loc' : mj_L} {st' : List Value} {h' : mj_H} (hs : mj_step (.lastore) r1 r2 r3 mj_new pc loc st h = some (pc', loc', st', h')) (hr : mj_Rel B b D dA s nL n0 s0 loc h ls H locs cells slots)
    (hcl : h'.length ≤ n0 + R.cells) (hsl : mj_sl h' ≤ s0 + R.slots)
    (k : ∀ (ls' : Array Slot) (H' : Heap) (locs' : List Loc) (cells' slots' : Nat), mj_Rel B b D dA s nL n0 s0 loc' h' ls' H' locs' cells' slots' → W p l e R s m args below meth c H' locs' cells' slots' Q (F0 m pc' ls' (st'.map (mj_rv B b)))) :
    W p l e R s m args below meth c H locs cells slots Q (F0 m pc ls (st.map (mj_rv B b))) := by
  obtain ⟨hx, hb, hml, hown, hts, hK, hB, hbB, hlk, hin⟩ := C
  simp only [mj_step] at hs
  split at hs
  · rename_i x i a st0
    split at hs
    · rename_i t n f he
      split at hs
      · rename_i hcond
        obtain ⟨ht, hin2⟩ := hcond
        cases hs
        have hat := hr.1.2.2 _ _ he
        subst ht
        obtain ⟨ht6, e1⟩ := hat.2 (by decide)
        have ha0 := hr.ne0 he (fun L xs h => by cases h)
        refine W.last hx hb e1 ((hK.2 1 _ (mj_tys_at dA ht6)).1 n _) (fun q => by cases q) (by rw [arrV_size]; exact mj_in_of hin2) rfl rfl hd (fun H' f1 f2 f3 => k _ _ _ _ _ (hr.putE hbB ha0 he rfl ?_ f2 f3))
        refine ⟨fun h => absurd h (by decide), fun _ => ⟨by decide, ?_⟩⟩
        rw [f1, arrV_store]
        congr 2
        funext j
        by_cases hj : j = i.toNatClampNeg
        · simp only [updV, hj, if_true]; rfl
        · simp only [updV, hj, if_false]
      · cases hs
    · cases hs
  · cases hs
theorem mj_s_bastore {r1 r2 r3 r4 r5 : Nat} (C : mj_Ctx p s m args meth c y cc nL B b D dA) (hd : decode cc pc = .ok (.bastore, mj_len (.bastore))) (ho : mj_okS y pc (.bastore) r1 r2 r3 r4 r5 = true) {pc' : Nat} {loc' : mj_L} {st' : List Value} {h' : mj_H} (hs : mj_step (.bastore) r1 r2 r3 mj_new pc loc st h = some (pc', loc', st', h')) (hr : mj_Rel B b D dA s nL n0 s0 loc h ls H locs cells slots)
    (hcl : h'.length ≤ n0 + R.cells) (hsl : mj_sl h' ≤ s0 + R.slots)
    (k : ∀ (ls' : Array Slot) (H' : Heap) (locs' : List Loc) (cells' slots' : Nat), mj_Rel B b D dA s nL n0 s0 loc' h' ls' H' locs' cells' slots' → W p l e R s m args below meth c H' locs' cells' slots' Q (F0 m pc' ls' (st'.map (mj_rv B b)))) :
    W p l e R s m args below meth c H locs cells slots Q (F0 m pc ls (st.map (mj_rv B b))) := by
  obtain ⟨hx, hb, hml, hown, hts, hK, hB, hbB, hlk, hin⟩ := C
  simp only [mj_step] at hs
  split at hs
  · rename_i x i a st0
    split at hs
    · rename_i t n f he
      split at hs
      · rename_i hcond
        obtain ⟨ht, hin2⟩ := hcond
        cases hs
        have hat := hr.1.2.2 _ _ he
        subst ht
        obtain ⟨ht6, e1⟩ := hat.2 (by decide)
        have ha0 := hr.ne0 he (fun L xs h => by cases h)
        refine W.bast hx hb e1 ((hK.2 2 _ (mj_tys_at dA ht6)).1 n _) (fun q => by cases q) (by rw [arrV_size]; exact mj_in_of hin2) rfl rfl hd (fun H' f1 f2 f3 => k _ _ _ _ _ (hr.putE hbB ha0 he rfl ?_ f2 f3))
        refine ⟨fun h => absurd h (by decide), fun _ => ⟨by decide, ?_⟩⟩
        rw [f1, arrV_store]
        congr 2
        funext j
        by_cases hj : j = i.toNatClampNeg
        · simp only [updV, hj, if_true]; rfl
        · simp only [updV, hj, if_false]
      · cases hs
    · cases hs
  · cases hs
theorem mj_s_aastore {r1 r2 r3 r4 r5 : Nat} (C : mj_Ctx p s m args meth c y cc nL B b D dA) (hd : decode cc pc = .ok (.aastore, mj_len (.aastore))) (ho : mj_okS y pc (.aastore) r1 r2 r3 r4 r5 = true) {pc' : Nat} {loc' : mj_L} {st' : List Value} {h' : mj_H} (hs : mj_step (.aastore) r1 r2 r3 mj_new pc loc st h = some (pc', loc', st', h')) (hr : mj_Rel B b D dA s nL n0 s0 loc h ls H locs cells slots)
    (hcl : h'.length ≤ n0 + R.cells) (hsl : mj_sl h' ≤ s0 + R.slots)
    (k : ∀ (ls' : Array Slot) (H' : Heap) (locs' : List Loc) (cells' slots' : Nat), mj_Rel B b D dA s nL n0 s0 loc' h' ls' H' locs' cells' slots' → W p l e R s m args below meth c H' locs' cells' slots' Q (F0 m pc' ls' (st'.map (mj_rv B b)))) :
    W p l e R s m args below meth c H locs cells slots Q (F0 m pc ls (st.map (mj_rv B b))) := by
  obtain ⟨hx, hb, hml, hown, hts, hK, hB, hbB, hlk, hin⟩ := C
  simp only [mj_step] at hs
  split at hs
  · rename_i v i a st0
    split at hs
    · rename_i t n f he
      split at hs
      · rename_i cv fv hev
        split at hs
        · rename_i hcond
          obtain ⟨ht, hin2⟩ := hcond
          cases hs
          have hat := hr.1.2.2 _ _ he
          obtain ⟨ht6, e1⟩ := hat.2 (fun q => by rw [q] at ht; simp [mj_el] at ht)
          have ha0 := hr.ne0 he (fun L xs h => by cases h; simp [mj_el] at ht)
          have hq : mj_cl[cv]? = some (match cv with | 0 => (match mj_cl[0]? with | some q => q | none => ("", mj_T0, 0)) | 3 => (match mj_cl[3]? with | some q => q | none => ("", mj_T0, 0)) | _ => (match mj_cl[8]? with | some q => q | none => ("", mj_T0, 0))) ∧ (mj_tt t = .object (match cv with | 0 => "PolyRegisters$Bench" | 3 => "PolyRegisters$Poly" | _ => "PolyRegisters$Wide")) ∧ (cv = 0 ∨ cv = 3 ∨ cv = 8) := by
            match t, ht with
            | 3, ht => cases ht; exact ⟨rfl, rfl, Or.inl rfl⟩
            | 4, ht => cases ht; exact ⟨rfl, rfl, Or.inr (Or.inl rfl)⟩
            | 5, ht => cases ht; exact ⟨rfl, rfl, Or.inr (Or.inr rfl)⟩
          obtain ⟨hq1, hq2, hq3⟩ := hq
          obtain ⟨r, h1, h2, cellV, g1, g2, g3, -⟩ := hr.1.2.2 _ _ hev (mj_cl_ne hq1)
          have hcls := (hK.1 cv _ h1).2
          have hR := (hK.2 t _ (mj_tys_at dA ht6)).2
          have hname : mj_tt t = .object r.1 := by
            rw [hq2]
            rcases hq3 with rfl | rfl | rfl <;> (cases h1; rfl)
          rw [hname] at hR
          obtain ⟨kA, comp, k1, k2, k3, -⟩ := hR
          have hcomp : comp = D.1 cv := Option.some.inj (k3.symm.trans hcls.1)
          subst hcomp
          obtain ⟨kC, hkC, -⟩ := hcls.2
          refine W.aast hx hb e1 (fun q h => by cases h) (fun h => by cases h) k1 k2 rfl hkC ⟨fun q => mj_in_of hin2 (Or.inl q), by rw [arrV_size]; exact mj_in_lt hin2⟩ g1 (fun q h => by rw [g3] at h; cases h) (by rw [g2]; exact hkC) (by rw [g2]; exact va_assign hcls) rfl rfl hd (fun H' f1 f2 f3 => k _ _ _ _ _ (hr.putE hbB ha0 he rfl ?_ f2 f3))
          refine ⟨fun h => by subst h; simp [mj_el] at ht, fun _ => ⟨ht6, ?_⟩⟩
          rw [f1, arrV_store]
          congr 2
          funext j
          by_cases hj : j = i.toNatClampNeg
          · simp only [updV, hj, if_true]; rfl
          · simp only [updV, hj, if_false]
        · cases hs
      · cases hs
    · cases hs
  · cases hs
theorem mj_s_newarray {r1 r2 r3 r4 r5 : Nat} {i : ArrayType} (C : mj_Ctx p s m args meth c y cc nL B b D dA) (hd : decode cc pc = .ok (.newarray i, mj_len (.newarray i))) (ho : mj_okS y pc (.newarray i) r1 r2 r3 r4 r5 = true) {pc' : Nat} {loc' : mj_L} {st' : List Value} {h' : mj_H} (hs : mj_step (.newarray i) r1 r2 r3 mj_new pc loc st h = some (pc', loc', st', h')) (hr : mj_Rel B b D dA s nL n0 s0 loc h ls H locs cells slots)
    (hcl : h'.length ≤ n0 + R.cells) (hsl : mj_sl h' ≤ s0 + R.slots)
    (k : ∀ (ls' : Array Slot) (H' : Heap) (locs' : List Loc) (cells' slots' : Nat), mj_Rel B b D dA s nL n0 s0 loc' h' ls' H' locs' cells' slots' → W p l e R s m args below meth c H' locs' cells' slots' Q (F0 m pc' ls' (st'.map (mj_rv B b)))) :
    W p l e R s m args below meth c H locs cells slots Q (F0 m pc ls (st.map (mj_rv B b))) := by
  obtain ⟨hx, hb, hml, hown, hts, hK, hB, hbB, hlk, hin⟩ := C
  simp only [mj_step] at hs
  split at hs
  · rename_i n st0
    split at hs
    · rename_i hcond
      obtain ⟨hn, hby, ht⟩ := hcond
      cases hs
      simp only [mj_okS, Bool.and_eq_true, decide_eq_true_eq] at ho
      obtain ⟨hty, hw⟩ := ho
      have hcb : componentBytes (newarray.typeOf i) ≤ 8 := by
        rw [hty]
        match r1, ht with
        | 0, _ => decide
        | 1, _ => decide
        | 2, _ => decide
      have hdv : defaultValue (newarray.typeOf i) = mj_rv B b (mj_df r1) := by
        rw [hty]
        match r1, ht with
        | 0, _ => rfl
        | 1, _ => rfl
        | 2, _ => rfl
      have hl : (h ++ [Sum.inl (r1, n.toNatClampNeg, fun _ => mj_df r1)] : mj_H).length = h.length + 1 := by simp
      rw [hl] at hcl
      rw [mj_sl_push] at hsl
      have hc0 := hr.2.2.2.1
      have hs0 := hr.2.2.2.2
      simp only [mj_slot] at hsl
      refine va_newaK hx hb (by rw [hty]; exact hts _ (mj_w_of hw).1 (mj_w_of hw).2) (g := F0 m pc ls (.int n :: st0.map (mj_rv B b))) rfl hd rfl (mj_not_lt hn) rfl (Nat.le_trans (Nat.mul_le_mul_left _ hcb) hby) (by omega) (by omega) rfl (fun H1 cA e1 z1 o1 hAr hNm => ?_)
      have hcA : cA = dA r1 := by
        have h6 := (hK.2 r1 _ (mj_tys_at dA (by omega))).2
        have h7 : s.vm.findClass ("[" ++ (mj_tt r1).toString) = some (dA r1) := by
          match r1, ht with
          | 0, _ => exact h6
          | 1, _ => exact h6
          | 2, _ => exact h6
        rw [hty] at hNm
        exact Option.some.inj (hNm.symm.trans h7)
      subst hcA
      obtain ⟨hr2, hadr⟩ := hr.pushE (e1 := .inl (r1, n.toNatClampNeg, fun _ => mj_df r1)) hB hbB ⟨fun h => by omega, fun _ => ⟨by omega, by rw [e1, hdv]⟩⟩ z1 o1
      have k := k _ _ _ _ _ hr2
      rw [← hadr]
      exact k
    · cases hs
  · cases hs
theorem mj_s_anewarray {r1 r2 r3 r4 r5 : Nat} {i : Nat} (C : mj_Ctx p s m args meth c y cc nL B b D dA) (hd : decode cc pc = .ok (.anewarray i, mj_len (.anewarray i))) (ho : mj_okS y pc (.anewarray i) r1 r2 r3 r4 r5 = true) {pc' : Nat} {loc' : mj_L} {st' : List Value} {h' : mj_H} (hs : mj_step (.anewarray i) r1 r2 r3 mj_new pc loc st h = some (pc', loc', st', h')) (hr : mj_Rel B b D dA s nL n0 s0 loc h ls H locs cells slots)
    (hcl : h'.length ≤ n0 + R.cells) (hsl : mj_sl h' ≤ s0 + R.slots)
    (k : ∀ (ls' : Array Slot) (H' : Heap) (locs' : List Loc) (cells' slots' : Nat), mj_Rel B b D dA s nL n0 s0 loc' h' ls' H' locs' cells' slots' → W p l e R s m args below meth c H' locs' cells' slots' Q (F0 m pc' ls' (st'.map (mj_rv B b)))) :
    W p l e R s m args below meth c H locs cells slots Q (F0 m pc ls (st.map (mj_rv B b))) := by
  obtain ⟨hx, hb, hml, hown, hts, hK, hB, hbB, hlk, hin⟩ := C
  simp only [mj_step] at hs
  split at hs
  · rename_i n st0
    split at hs
    · rename_i hcond
      obtain ⟨hn, hby⟩ := hcond
      cases hs
      simp only [mj_okS] at ho
      split at ho
      · rename_i ci hel
        split at ho
        · rename_i q hq
          simp only [Bool.and_eq_true, decide_eq_true_eq] at ho
          obtain ⟨⟨⟨⟨hw1, hw2⟩, hty⟩, ht3⟩, ht5⟩ := ho
          have hl : (h ++ [Sum.inl (r1, n.toNatClampNeg, fun _ => Value.null)] : mj_H).length = h.length + 1 := by simp
          rw [hl] at hcl
          rw [mj_sl_push] at hsl
          have hc0 := hr.2.2.2.1
          have hs0 := hr.2.2.2.2
          simp only [mj_slot] at hsl
          refine W.anew hx hb hown (hts _ (mj_w_of hw1).1 (mj_w_of hw1).2) (hts _ (mj_w_of hw2).1 (mj_w_of hw2).2) (g := F0 m pc ls (.int n :: st0.map (mj_rv B b))) rfl hd rfl (mj_not_lt hn) hby (by omega) (by omega) (fun cA kA comp f1 f2 f3 f4 => ?_)
          generalize hH1 : H.push ({ cls := cA, slots := Array.replicate n.toNatClampNeg .null, vm := .none } : Cell) = H1
          have z1 : H1.size = H.size + 1 := by rw [← hH1, Array.size_push]
          have e1 : H1[H.size]? = some (arrV cA n.toNatClampNeg (fun _ => .null)) := by rw [← hH1, Array.getElem?_push_size, ← arrV_new]
          have o1 : ∀ q : Nat, q < H.size → H1[q]? = H[q]? := fun q hq => by rw [← hH1, Array.getElem?_push, if_neg (Nat.ne_of_lt hq)]
          have hcA : cA = dA r1 := by
            have h6 := (hK.2 r1 _ (mj_tys_at dA (by omega))).2
            simp only [hty] at h6
            obtain ⟨kB, comp2, -, -, -, h7⟩ := h6
            exact Option.some.inj (f1.symm.trans h7)
          subst hcA
          obtain ⟨hr2, hadr⟩ := hr.pushE (e1 := .inl (r1, n.toNatClampNeg, fun _ => .null)) hB hbB ⟨fun h => by omega, fun _ => ⟨by omega, by rw [e1]; rfl⟩⟩ z1 o1
          have k := k _ _ _ _ _ hr2
          rw [← hadr]
          exact k
        · cases ho
      · cases ho
    · cases hs
  · cases hs
theorem mj_s_new {r1 r2 r3 r4 r5 : Nat} {i : Nat} (C : mj_Ctx p s m args meth c y cc nL B b D dA) (hd : decode cc pc = .ok (.new i, mj_len (.new i))) (ho : mj_okS y pc (.new i) r1 r2 r3 r4 r5 = true) {pc' : Nat} {loc' : mj_L} {st' : List Value} {h' : mj_H} (hs : mj_step (.new i) r1 r2 r3 mj_new pc loc st h = some (pc', loc', st', h')) (hr : mj_Rel B b D dA s nL n0 s0 loc h ls H locs cells slots)
    (hcl : h'.length ≤ n0 + R.cells) (hsl : mj_sl h' ≤ s0 + R.slots)
    (k : ∀ (ls' : Array Slot) (H' : Heap) (locs' : List Loc) (cells' slots' : Nat), mj_Rel B b D dA s nL n0 s0 loc' h' ls' H' locs' cells' slots' → W p l e R s m args below meth c H' locs' cells' slots' Q (F0 m pc' ls' (st'.map (mj_rv B b)))) :
    W p l e R s m args below meth c H locs cells slots Q (F0 m pc ls (st.map (mj_rv B b))) := by
  obtain ⟨hx, hb, hml, hown, hts, hK, hB, hbB, hlk, hin⟩ := C
  simp only [mj_step] at hs
  cases hs
  simp only [mj_okS] at ho
  split at ho
  · rename_i q hq
    obtain ⟨C, T, N⟩ := q
    have hc := mj_cls hq
    have htu : ∀ w ∈ u_ws C T N, w.before args s = true := fun w hw => hts w (hc.1 w hw).1 (hc.1 w hw).2
    have hKn := hK.1 r1 _ hq
    have hN : (mj_new r1).length = N := by
      have h9 : N = mj_nc r1 := hc.2.2.2.2.2
      rw [h9]
      simp [mj_new]
    have hl : (h ++ [Sum.inr (r1, mj_new r1)] : mj_H).length = h.length + 1 := by simp
    rw [hl] at hcl
    rw [mj_sl_push] at hsl
    have hc0 := hr.2.2.2.1
    have hs0 := hr.2.2.2.2
    simp only [mj_slot] at hsl
    refine W.newcK hx hb hown (hts _ (mj_w_of ho).1 (mj_w_of ho).2) (hts _ hc.2.2.2.1.1 hc.2.2.2.1.2) (hts _ hc.2.2.2.2.1.1 hc.2.2.2.2.1.2) (g := F0 m pc ls (st.map (mj_rv B b))) rfl hd (by omega) (by simp only; omega) hKn.2.1 rfl (fun H1 kC hkC e1 z1 o1 => ?_)
    have hob := (u_born (mj_ft r1) htu (fun w h => h) hKn hkC e1 hc.2.1)
    obtain ⟨hr2, hadr⟩ := hr.pushE (e1 := .inr (r1, mj_new r1)) (H1 := H1) hB hbB (fun _ => ⟨_, hq, hN.symm, hob.to (fun j hj => by
      have h9 : N = mj_nc r1 := hc.2.2.2.2.2
      have hj2 : j < mj_nc r1 := by rw [← h9]; exact hj
      have hdr : ∀ ty : FieldType, mj_rv B b (defaultValue ty) = defaultValue ty := fun ty => by cases ty <;> rfl
      simp [vp_V, mj_new, hj2, hdr])⟩) z1 o1
    have k := k _ _ _ _ _ hr2
    simp only [mj_slot, hN] at k
    rw [← hadr]
    exact k
  · cases ho
end MJH
end
section
/-! new long[n][k]: the machine's own loop over the rows, walked here (the order of its cells: the outer one, then the rows). -/
def mj_mi (comp : ClassId) (M : Nat) (dv : Value) : Cell := { cls := comp, slots := Array.replicate M dv, vm := .none }
def mj_mo (c : ClassId) (N h0 : Nat) (i : Nat) : Cell := arrV c N (fun j => if j < i then .ref (h0 + 1 + j) else .null)
theorem mj_mo_0 (c : ClassId) (N h0 : Nat) : ({ cls := c, slots := Array.replicate N .null, vm := .none } : Cell) = mj_mo c N h0 0 := by
  rw [arrV_new]
  simp [mj_mo]
theorem mj_mo_s (c : ClassId) (N h0 i : Nat) : (mj_mo c N h0 i).setSlot i (.ref (h0 + 1 + i)) = mj_mo c N h0 (i + 1) := by
  unfold mj_mo
  rw [arrV_store]
  congr 1
  funext j
  by_cases e : j = i
  · subst e; simp [updV]
  · by_cases h : j < i
    · simp [updV, e, h, Nat.lt_succ_of_lt h]
    · simp [updV, e, h, show ¬ j < i + 1 by omega]
def mj_mf (s : State) (c comp : ClassId) (N M : Nat) (dv : Value) : Nat → State
  | 0 => s.pushCell (mj_mo c N s.heap.size 0)
  | i + 1 => ((mj_mf s c comp N M dv i).pushCell (mj_mi comp M dv)).setCell s.heap.size (mj_mo c N s.heap.size (i + 1))
theorem mj_mo_f (c : ClassId) (N h0 i : Nat) : (mj_mo c N h0 i).cls = c ∧ (mj_mo c N h0 i).vm = .none ∧ (mj_mo c N h0 i).slots.size = N := ⟨rfl, rfl, arrV_size _ _ _⟩
theorem mj_mf_f (s : State) (c comp : ClassId) (N M : Nat) (dv : Value) : ∀ i, (mj_mf s c comp N M dv i).heap.size = s.heap.size + 1 + i ∧ (mj_mf s c comp N M dv i).heap[s.heap.size]? = some (mj_mo c N s.heap.size i) ∧
    (mj_mf s c comp N M dv i).vm = s.vm ∧ (mj_mf s c comp N M dv i).slotsUsed = s.slotsUsed + N + i * M
  | 0 => ⟨by simp [mj_mf], by simp [mj_mf], rfl, by simp [mj_mf, mj_mo, arrV_size]⟩
  | i + 1 => by
    obtain ⟨a, b, d, u⟩ := mj_mf_f s c comp N M dv i
    have hlt : s.heap.size < (mj_mf s c comp N M dv i).heap.size := by omega
    have hb' : ((mj_mf s c comp N M dv i).pushCell (mj_mi comp M dv)).heap[s.heap.size]? = some (mj_mo c N s.heap.size i) := by rw [State.heap_pushCell_of_lt (h := hlt)]; exact b
    refine ⟨?_, State.heap_setCell_self hb', by simp [mj_mf, d], ?_⟩
    · simp [mj_mf, State.setCell, a]; omega
    · simp [mj_mf, u, mj_mi, Nat.succ_mul]; omega
theorem mj_mf_top (s : State) (f : JFrame) (c comp : ClassId) (N M : Nat) (dv : Value) : ∀ i, mj_mf (s.setTop f) c comp N M dv i = (mj_mf s c comp N M dv i).setTop f
  | 0 => rfl
  | i + 1 => by simp only [mj_mf, mj_mf_top s f c comp N M dv i, State.heap_setTop, State.pushCell_setTop, State.setCell_setTop]
theorem mj_mf_old (s : State) (c comp : ClassId) (N M : Nat) (dv : Value) {a : Addr} (ha : a < s.heap.size) : ∀ i, (mj_mf s c comp N M dv i).heap[a]? = s.heap[a]?
  | 0 => State.heap_pushCell_of_lt _ _ ha
  | i + 1 => by
    have f1 := (mj_mf_f s c comp N M dv i).1
    have hlt : a < (mj_mf s c comp N M dv i).heap.size := Nat.lt_of_lt_of_le ha (by rw [f1]; omega)
    show (((mj_mf s c comp N M dv i).pushCell (mj_mi comp M dv)).setCell s.heap.size _).heap[a]? = _
    rw [State.heap_setCell_other (Nat.ne_of_gt ha), State.heap_pushCell_of_lt (h := hlt)]
    exact mj_mf_old s c comp N M dv ha i
theorem mj_mf_in (s : State) (c comp : ClassId) (N M : Nat) (dv : Value) : ∀ i j, j < i → (mj_mf s c comp N M dv i).heap[s.heap.size + 1 + j]? = some (mj_mi comp M dv)
  | 0, _, h => absurd h (Nat.not_lt_zero _)
  | i + 1, j, h => by
    have f1 := (mj_mf_f s c comp N M dv i).1
    show (((mj_mf s c comp N M dv i).pushCell (mj_mi comp M dv)).setCell s.heap.size _).heap[s.heap.size + 1 + j]? = _
    rw [State.heap_setCell_other (show s.heap.size ≠ s.heap.size + 1 + j by omega)]
    rcases Nat.lt_or_ge j i with hj | hj
    · have hlt : s.heap.size + 1 + j < (mj_mf s c comp N M dv i).heap.size := by rw [f1]; omega
      rw [State.heap_pushCell_of_lt (h := hlt)]
      exact mj_mf_in s c comp N M dv i j hj
    · have e : j = i := by omega
      subst e
      rw [← f1]
      exact State.heap_pushCell_size _ _
section MJM
variable {E : CtlPost} {e : Env} {d : Bool} {acts : List Action} {s : State}
theorem mj_m_new {c comp : ClassId} {k : Class} {type : FieldType} {len : Nat} {init : Value} (hk : s.vm.classes[c]? = some k) (hkind : k.kind = .array comp type)
    (hlimit : ¬ len > e.platform.arrayLengthLimit) (hheap : ¬ len * componentBytes type > e.platform.maxHeapBytes) (hfit : fits type init = true) (hdef : init.isDefault = true) {Q : Addr → Pre}
    (h1 : s.heap.size < e.platform.maxCells) (h2 : s.slotsUsed + len ≤ e.platform.maxSlots)
    (hq : Q s.heap.size d acts (s.pushCell { cls := c, slots := Array.replicate len init, vm := .none })) :
    wp (_root_.Jvm.newArray c len init) Q E e d acts s := by
  have hfits : ∀ i v, (Array.replicate len init)[i]? = some v → s.fitsSlot c .none i v = true := by
    intro i v hv
    simp only [Array.getElem?_replicate] at hv
    split at hv
    · cases hv; simp [State.fitsSlot, State.slotType?, hk, hkind, hfit]
    · cases hv
  have hda : allocActs (Array.replicate len init) s.heap.size acts = acts := by
    have hall : ((Array.replicate len init).all (·.isDefault)) = true := by
      rw [Array.all_replicate]; split <;> simp [hdef]
    unfold allocActs; rw [if_pos hall]
  simp only [_root_.Jvm.newArray, _root_.Jvm.arrayFits, wp_bind', _root_.Jvm.W.ask, _root_.Jvm.W.ite, hlimit, if_false, wp_pure', _root_.Jvm.W.theClass, hk, hkind, hheap, _root_.Jvm.W.alloc, _root_.Jvm.W.stop, Option.some.injEq, exists_eq_left', Array.size_replicate, hda]
  rw [if_neg (by omega)]
  exact ⟨h1, h2, hfits, hq⟩
theorem mj_m_ref {t : FieldType} (h : t.isReference = true) (v : Value) (hv : v = .null ∨ ∃ a, v = .ref a) : fits t v = true := by
  rcases hv with rfl | ⟨a, rfl⟩ <;> cases t <;> simp [FieldType.isReference] at h <;> rfl
theorem mj_m_1 {comp cc : ClassId} {kc : Class} {type : FieldType} {m : Int32} (hkc : s.vm.classes[comp]? = some kc) (hkindc : kc.kind = .array cc type) (hm : ¬ m < 0)
    (hl2 : ¬ m.toNatClampNeg > e.platform.arrayLengthLimit) (hh2 : ¬ m.toNatClampNeg * componentBytes type > e.platform.maxHeapBytes)
    (hdf : fits type (defaultValue type) = true) (hdd : (defaultValue type).isDefault = true)
    (h1 : s.heap.size < e.platform.maxCells) (h2 : s.slotsUsed + m.toNatClampNeg ≤ e.platform.maxSlots)
    {Q : Addr → Pre} (hq : Q s.heap.size d acts (s.pushCell (mj_mi comp m.toNatClampNeg (defaultValue type)))) :
    wp (multianewarray.make comp [m]) Q E e d acts s := by
  rw [multianewarray.make]
  simp only [wp_bind', _root_.Jvm.W.ite, hm, if_false, wp_pure', _root_.Jvm.W.theClass, hkc, hkindc, Option.some.injEq, exists_eq_left']
  exact mj_m_new hkc hkindc hl2 hh2 hdf hdd h1 h2 hq
theorem mj_m_2 {c comp cc : ClassId} {k kc : Class} {t0 type : FieldType} {n m : Int32} (hk : s.vm.classes[c]? = some k) (hkind : k.kind = .array comp t0) (href : t0.isReference = true)
    (hkc : s.vm.classes[comp]? = some kc) (hkindc : kc.kind = .array cc type) (hn : ¬ n < 0) (hm : ¬ m < 0)
    (hl1 : ¬ n.toNatClampNeg > e.platform.arrayLengthLimit) (hh1 : ¬ n.toNatClampNeg * componentBytes t0 > e.platform.maxHeapBytes)
    (hl2 : ¬ m.toNatClampNeg > e.platform.arrayLengthLimit) (hh2 : ¬ m.toNatClampNeg * componentBytes type > e.platform.maxHeapBytes)
    (hdf : fits type (defaultValue type) = true) (hdd : (defaultValue type).isDefault = true)
    (hc : s.heap.size + 1 + n.toNatClampNeg ≤ e.platform.maxCells) (hs : s.slotsUsed + n.toNatClampNeg + n.toNatClampNeg * m.toNatClampNeg ≤ e.platform.maxSlots)
    {Q : Addr → Pre} (hq : ∀ d' acts', Q s.heap.size d' acts' (mj_mf s c comp n.toNatClampNeg m.toNatClampNeg (defaultValue type) n.toNatClampNeg)) :
    wp (multianewarray.make c [n, m]) Q E e d acts s := by
  have hfind : ([m].find? (· < 0)) = none := by simp [hm]
  rw [multianewarray.make]
  simp only [wp_bind', _root_.Jvm.W.ite, hn, if_false, wp_pure', _root_.Jvm.W.theClass, hk, hkind, Option.some.injEq, exists_eq_left']
  refine mj_m_new hk hkind hl1 hh1 (mj_m_ref href _ (Or.inl rfl)) rfl (by omega) (by have := Nat.zero_le (n.toNatClampNeg * m.toNatClampNeg); omega) ?_
  simp only [hfind]
  rw [ite_self, wp_bind', Std.Legacy.Range.forIn_eq_forIn_range']
  have hsz : ([:n.toNatClampNeg] : Std.Legacy.Range).size = n.toNatClampNeg := by simp [Std.Legacy.Range.size]
  rw [hsz]
  show wp (forIn (List.range' 0 n.toNatClampNeg 1) PUnit.unit _) _ E e d acts _
  refine wp_forIn_inv (fun rest s' => ∃ i, i ≤ n.toNatClampNeg ∧ rest = List.range' i (n.toNatClampNeg - i) ∧ s' = mj_mf s c comp n.toNatClampNeg m.toNatClampNeg (defaultValue type) i) _ _ ⟨0, Nat.zero_le _, rfl, by rw [mj_mo_0 c n.toNatClampNeg s.heap.size]; rfl⟩ ?_ ?_
  · rintro x rest s' d' acts' Q' ⟨i, hi, hl, rfl⟩ hnext
    have hlt : i < n.toNatClampNeg := by
      rcases Nat.lt_or_ge i n.toNatClampNeg with h | h
      · exact h
      · rw [show n.toNatClampNeg - i = 0 from by omega] at hl; simp at hl
    obtain ⟨rfl, hrest⟩ : x = i ∧ rest = List.range' (i + 1) (n.toNatClampNeg - (i + 1)) := by
      rw [show n.toNatClampNeg - i = (n.toNatClampNeg - (i + 1)) + 1 from by omega, List.range'_succ] at hl
      exact ⟨(List.cons.inj hl).1, (List.cons.inj hl).2⟩
    obtain ⟨f1, f2, f3, f4⟩ := mj_mf_f s c comp n.toNatClampNeg m.toNatClampNeg (defaultValue type) x
    obtain ⟨o1, o2, o3⟩ := mj_mo_f c n.toNatClampNeg s.heap.size x
    have hmul : x * m.toNatClampNeg + m.toNatClampNeg ≤ n.toNatClampNeg * m.toNatClampNeg := by
      have := Nat.mul_le_mul_right m.toNatClampNeg (show x + 1 ≤ n.toNatClampNeg from hlt)
      rw [Nat.succ_mul] at this; exact this
    simp only [wp_bind']
    refine mj_m_1 (by rw [f3]; exact hkc) hkindc hm hl2 hh2 hdf hdd (by rw [f1]; omega) (by rw [f4]; omega) ?_
    have hlt0 : s.heap.size < (mj_mf s c comp n.toNatClampNeg m.toNatClampNeg (defaultValue type) x).heap.size := by rw [f1]; omega
    simp only [wp_bind', _root_.Jvm.W.writeLoc, wp_pure']
    refine ⟨mj_mo c n.toNatClampNeg s.heap.size x, by rw [State.heap_pushCell_of_lt (h := hlt0)]; exact f2, by rw [o2]; simp, by rw [o3]; exact hlt, ?_, hnext _ _ _ ⟨x + 1, hlt, hrest, ?_⟩⟩
    · rw [o1, o2]
      simp [State.fitsSlot, State.slotType?, f3, hk, hkind, mj_m_ref href _ (Or.inr ⟨_, rfl⟩)]
    · rw [f1, mj_mo_s]; rfl
  · rintro s' d' acts' ⟨i, hi, hl, rfl⟩
    have hiN : i = n.toNatClampNeg := by
      rcases Nat.lt_or_ge i n.toNatClampNeg with h | h
      · rw [show n.toNatClampNeg - i = (n.toNatClampNeg - (i + 1)) + 1 from by omega, List.range'_succ] at hl; cases hl
      · omega
    subst hiN
    simp only [wp_pure']
    exact hq _ _
end MJM
section MJN
variable {p : Program} {l : Launch} {e : Env} {R : Room} {s : State} {m : MethodId} {args : Array Value} {below : List Frame} {meth : Method} {c : Code} {T : State} {locs : List Loc} {cells slots : Nat}
theorem mj_filled (X : Stand p l e R s m args below meth c T locs cells slots) (cA comp : ClassId) (N M : Nat) (dv : Value) :
    ∀ i, Stand p l e R s m args below meth c (mj_mf T cA comp N M dv i) (locs ++ (List.range i).map fun j => ⟨T.heap.size, j⟩) (cells + 1 + i) (slots + N + i * M)
  | 0 => by
    have h := X.pushed (mj_mo cA N T.heap.size 0)
    rw [(mj_mo_f cA N T.heap.size 0).2.2] at h
    simpa [mj_mf] using h
  | i + 1 => by
    have Xi := mj_filled X cA comp N M dv i
    obtain ⟨f1, f2, f3, f4⟩ := mj_mf_f T cA comp N M dv i
    have hlt0 : T.heap.size < (mj_mf T cA comp N M dv i).heap.size := by rw [f1]; omega
    have hcell : ((mj_mf T cA comp N M dv i).pushCell (mj_mi comp M dv)).heap[T.heap.size]? = some (mj_mo cA N T.heap.size i) := by rw [State.heap_pushCell_of_lt (h := hlt0)]; exact f2
    have h := (Xi.pushed (mj_mi comp M dv)).stored hcell i (.ref (T.heap.size + 1 + i))
    rw [mj_mo_s] at h
    have e1 : (mj_mi comp M dv).slots.size = M := by simp [mj_mi]
    rw [e1] at h
    have e2 : (locs ++ (List.range (i + 1)).map fun j => (⟨T.heap.size, j⟩ : Loc)) = (locs ++ (List.range i).map fun j => (⟨T.heap.size, j⟩ : Loc)) ++ [⟨T.heap.size, i⟩] := by simp [List.range_succ, List.append_assoc]
    have e3 : slots + N + (i + 1) * M = slots + N + i * M + M := by rw [Nat.succ_mul]; omega
    rw [e2, e3]
    exact h
theorem mj_multi (X : Stand p l e R s m args below meth c T locs cells slots) (hexec : p.tables.exec = Jvm.exec) {own : String} {index : Nat} {ty : FieldType}
    (hown : s.vm.findClass own = some m.cls) (hclink : (Jvm.Cond.classLink own index ("[" ++ (FieldType.array ty).toString)).before args s = true)
    (hover : (Jvm.Cond.arrayOver (.array ty)).before args s = true) (harr : (Jvm.Cond.arrayClass ty).before args s = true)
    {g : JFrame} (hg : g.method = m) (hdg : decode c.code g.pc = .ok (.multianewarray index 2, 4)) {n k : Int32} {rest : List Value} (hstack : g.stack = .int k :: .int n :: rest)
    (hn : ¬ n < 0) (hk : ¬ k < 0) (hb1 : n.toNatClampNeg * 4 ≤ 536870912) (hb2 : k.toNatClampNeg * componentBytes ty ≤ 536870912) (hb3 : k.toNatClampNeg ≤ 536870912)
    (hdf : fits ty (defaultValue ty) = true) (hdd : (defaultValue ty).isDefault = true)
    (hcells : cells + (1 + n.toNatClampNeg) ≤ R.cells) (hslots : slots + (n.toNatClampNeg + n.toNatClampNeg * k.toNatClampNeg) ≤ R.slots) :
    ∃ (vm₁ : Vm) (cA comp : ClassId), s.WarmedH vm₁ ∧ s.vm.findClass ("[" ++ (FieldType.array ty).toString) = some cA ∧ s.vm.findClass (FieldType.array ty).toString = some comp ∧
      Stand p l e R s m args below meth c (mj_mf (T.setVm vm₁) cA comp n.toNatClampNeg k.toNatClampNeg (defaultValue ty) n.toNatClampNeg) (locs ++ (List.range n.toNatClampNeg).map fun j => ⟨T.heap.size, j⟩) (cells + 1 + n.toNatClampNeg) (slots + n.toNatClampNeg + n.toNatClampNeg * k.toNatClampNeg) ∧
      ∀ target, Steps p.tables e below ((mj_mf (T.setVm vm₁) cA comp n.toNatClampNeg k.toNatClampNeg (defaultValue ty) n.toNatClampNeg).setTop { g with pc := g.pc + 4, stack := .ref T.heap.size :: rest }) target →
        Steps p.tables e below (T.setTop g) target := by
  subst hg
  have hpl : e.platform.magicAccessors = ({} : Platform).magicAccessors := by rw [X.admits.platform]
  obtain ⟨comp, cA, kA, hcomp, -, hkA, hkindA, hnameA⟩ := mj_overA hover
  obtain ⟨comp', kC, cc, hcomp', hkC, hkindC⟩ := Cond.arrayClass_spec harr
  have ecomp : comp' = comp := Option.some.inj (hcomp'.symm.trans hcomp)
  subst ecomp
  obtain ⟨c0, hfc0, hcl⟩ := Cond.classLink_spec hown hclink e.platform hpl
  cases hnameA.symm.trans hfc0
  obtain ⟨hg₁, hwarm₁, hready₁⟩ := State.classEntry (e := e) X.warmed hcl
  generalize T.vm.noted g.method.cls index (.cls cA) = vm₁ at hg₁ hwarm₁ hready₁
  have hal : s.vm.Alike vm₁ := hwarm₁.alike
  obtain ⟨kA₁, hkA₁, heA⟩ := hal.2.2 _ _ hkA
  obtain ⟨kC₁, hkC₁, heC⟩ := hal.2.2 _ _ hkC
  have hkindA₁ : kA₁.kind = .array comp' (.array ty) := by rw [heA]; exact hkindA
  have hkindC₁ : kC₁.kind = .array cc ty := by rw [heC]; exact hkindC
  have X₁ := X.noted hwarm₁
  obtain ⟨hr1, hr2⟩ := X.roomAbove hcells hslots
  refine ⟨vm₁, cA, comp', hwarm₁, hnameA, hcomp, mj_filled X₁ cA comp' _ _ _ _, fun target hrest => ?_⟩
  have hl1 : ¬ n.toNatClampNeg > e.platform.arrayLengthLimit := by rw [Launch.admits_arrayLengthLimit X.admits]; omega
  have hh1 : ¬ n.toNatClampNeg * componentBytes (.array ty) > e.platform.maxHeapBytes := by
    rw [Launch.admits_maxHeapBytes X.admits]; show ¬ n.toNatClampNeg * 4 > 536870912; omega
  have hl2 : ¬ k.toNatClampNeg > e.platform.arrayLengthLimit := by rw [Launch.admits_arrayLengthLimit X.admits]; omega
  have hh2 : ¬ k.toNatClampNeg * componentBytes ty > e.platform.maxHeapBytes := by rw [Launch.admits_maxHeapBytes X.admits]; omega
  jvm_step X.here [hexec, hdg]
  simp only [multianewarray.sem, wp_bind', _root_.Jvm.W.resolveClassAt_links (State.method?_setTop g X.here.top) hg₁]
  rw [_root_.Jvm.W.popN, if_neg (by decide)]
  refine ⟨g, State.topJava?_setTop' (s := T.setVm vm₁) g X.here.top, [.int n, .int k], rest, rfl, hstack, ?_⟩
  simp only [List.mapM_cons, List.mapM_nil, wp_bind', wp_pure']
  refine mj_m_2 (k := kA₁) (kc := kC₁) (comp := comp') (cc := cc) (t0 := .array ty) (type := ty) hkA₁ hkindA₁ rfl hkC₁ hkindC₁ hn hk hl1 hh1 hl2 hh2 hdf hdd (by show T.heap.size + 1 + _ ≤ _; omega) (by show T.slotsUsed + _ + _ ≤ _; omega) (fun d' acts' => ?_)
  have XF := mj_filled X₁ cA comp' n.toNatClampNeg k.toNatClampNeg (defaultValue ty) n.toNatClampNeg
  have eS : ((T.setTop g).setVm vm₁).setTop { g with stack := rest } = (T.setVm vm₁).setTop { g with stack := rest } := by
    show ((T.setVm vm₁).setTop g).setTop _ = _
    rw [State.setTop_setTop]
  rw [eS, mj_mf_top]
  simp only [wp_bind', _root_.Jvm.W.mark, _root_.Jvm.W.pushRef, State.topJava?_setTop' _ XF.here.top, Option.some.injEq, exists_eq_left', State.setTop_setTop, State.heap_setTop]
  intro acts
  simp [jvm, XF.here.top]
  exact hrest
end MJN
end
section
/-! The last two steps, and all of them as one. -/
section MJC
variable {p : Program} {l : Launch} {e : Env} {R : Room} {s : State} {m : MethodId} {args : Array Value} {below : List Frame} {meth : Method} {c : Code} {H : Heap} {locs : List Loc} {cells slots : Nat} {Q : State → Prop}
variable {y : MethodName} {cc : ByteArray} {nL B b n0 s0 : Nat} {D : va_G} {dA : Nat → ClassId} {pc : Nat} {loc : mj_L} {st : List Value} {h : mj_H} {ls : Array Slot}
theorem mj_rows_len (n k z : Nat) : (mj_rows n k z).length = n := by simp [mj_rows]
theorem mj_rows_get {n k z j : Nat} {e : mj_E} (h : (mj_rows n k z)[j]? = some e) : j < n ∧ e = .inl (1, k, fun _ => .long 0) := by
  have hl := (List.getElem?_eq_some_iff.mp h).1
  rw [mj_rows_len] at hl
  refine ⟨hl, ?_⟩
  simp only [mj_rows, List.getElem?_map] at h
  obtain ⟨x, -, hx⟩ := Option.map_eq_some_iff.mp h
  exact hx.symm
theorem mj_rows_sl : ∀ (n k z : Nat), mj_sl (mj_rows n k z) = n * k := by
  intro n k z
  unfold mj_rows mj_sl
  induction n with
  | zero => simp
  | succ n ih =>
    rw [List.range_succ, List.map_append, List.map_append, List.sum_append, ih]
    simp [mj_slot, Nat.succ_mul]

theorem mj_s_multi {r1 r2 r3 r4 r5 : Nat} {i dm : Nat} (C : mj_Ctx p s m args meth c y cc nL B b D dA) (hd : decode cc pc = .ok (.multianewarray i dm, mj_len (.multianewarray i dm))) (ho : mj_okS y pc (.multianewarray i dm) r1 r2 r3 r4 r5 = true) {pc' : Nat} {loc' : mj_L} {st' : List Value} {h' : mj_H} (hs : mj_step (.multianewarray i dm) r1 r2 r3 mj_new pc loc st h = some (pc', loc', st', h')) (hr : mj_Rel B b D dA s nL n0 s0 loc h ls H locs cells slots)
    (hcl : h'.length ≤ n0 + R.cells) (hsl : mj_sl h' ≤ s0 + R.slots)
    (k : ∀ (ls' : Array Slot) (H' : Heap) (locs' : List Loc) (cells' slots' : Nat), mj_Rel B b D dA s nL n0 s0 loc' h' ls' H' locs' cells' slots' → W p l e R s m args below meth c H' locs' cells' slots' Q (F0 m pc' ls' (st'.map (mj_rv B b)))) :
    W p l e R s m args below meth c H locs cells slots Q (F0 m pc ls (st.map (mj_rv B b))) := by
  obtain ⟨hx, hb, hml, hown, hts, hK, hB, hbB, hlk, hin⟩ := C
  simp only [mj_step] at hs
  split at hs
  · rename_i k0 n st0
    split at hs
    · rename_i hcond
      obtain ⟨hn, hk, hb1, hb2⟩ := hcond
      cases hs
      simp only [mj_okS, Bool.and_eq_true, decide_eq_true_eq] at ho
      obtain ⟨⟨⟨hdm, hw1⟩, hw2⟩, hw3⟩ := ho
      subst hdm
      generalize hN : n.toNatClampNeg = N at *
      generalize hM : k0.toNatClampNeg = M at *
      have hl : (h ++ (Sum.inl (6, N, fun i => if i < N then Value.ref (h.length + 1 + i) else Value.null) :: mj_rows N M 0) : mj_H).length = h.length + 1 + N := by
        rw [List.length_append, List.length_cons, mj_rows_len]; omega
      have hsl2 : mj_sl (h ++ (Sum.inl (6, N, fun i => if i < N then Value.ref (h.length + 1 + i) else Value.null) :: mj_rows N M 0) : mj_H) = mj_sl h + N + N * M := by
        have h1 : ∀ a b : mj_H, mj_sl (a ++ b) = mj_sl a + mj_sl b := fun a b => by simp [mj_sl]
        have h2 : ∀ (x : mj_E) (b : mj_H), mj_sl (x :: b) = mj_slot x + mj_sl b := fun a b => by simp [mj_sl]
        rw [h1, h2, mj_rows_sl]
        simp only [mj_slot]
        omega
      rw [hl] at hcl
      rw [hsl2] at hsl
      have hc0 := hr.2.2.2.1
      have hs0 := hr.2.2.2.2
      intro T hT X
      obtain ⟨vm₁, cA, comp, hW, hfA, hfC, X1, step⟩ := mj_multi (ty := .long) X hx hown (hts _ (mj_w_of hw1).1 (mj_w_of hw1).2) (hts _ (mj_w_of hw2).1 (mj_w_of hw2).2) (hts _ (mj_w_of hw3).1 (mj_w_of hw3).2) (g := F0 m pc ls (.int k0 :: .int n :: st0.map (mj_rv B b))) rfl (by rw [hb]; exact hd) rfl (mj_not_lt hn) (mj_not_lt hk) (by rw [hN]; exact hb1) (by rw [hM]; exact hb2) (by rw [hM]; omega) rfl rfl (by rw [hN]; omega) (by rw [hN, hM]; omega)
      rw [hN, hM] at X1 step
      have hcA : cA = dA 6 := by
        have h6 : s.vm.findClass ("[" ++ (FieldType.array .long).toString) = some (dA 6) := (hK.2 6 _ (mj_tys_at dA (Nat.le_refl 6))).2
        exact Option.some.inj (hfA.symm.trans h6)
      have hcB : comp = dA 1 := by
        have h6 : s.vm.findClass ("[" ++ FieldType.long.toString) = some (dA 1) := (hK.2 1 _ (mj_tys_at dA (by decide))).2
        exact Option.some.inj (hfC.symm.trans h6)
      subst hcA
      subst hcB
      generalize hF : mj_mf (T.setVm vm₁) (dA 6) (dA 1) N M (defaultValue .long) N = F at X1 step
      have hTh : (T.setVm vm₁).heap = H := hT
      obtain ⟨f1, f2, -, -⟩ := mj_mf_f (T.setVm vm₁) (dA 6) (dA 1) N M (defaultValue .long) N
      rw [hF, hTh] at f1 f2
      have fold : ∀ x : Nat, x < H.size → F.heap[x]? = H[x]? := fun x hx => by
        have := mj_mf_old (T.setVm vm₁) (dA 6) (dA 1) N M (defaultValue .long) (a := x) (by rw [hTh]; exact hx) N
        rw [hF, hTh] at this
        exact this
      have frow : ∀ j : Nat, j < N → F.heap[H.size + 1 + j]? = some (mj_mi (dA 1) M (.long 0)) := fun j hj => by
        have := mj_mf_in (T.setVm vm₁) (dA 6) (dA 1) N M (defaultValue .long) N j hj
        rw [hF, hTh] at this
        exact this
      have hz := hr.1.1
      obtain ⟨L0, xs0, h00⟩ := hr.1.2.1
      have hlp : 0 < h.length := (List.getElem?_eq_some_iff.mp h00).1
      have had : ∀ j, mj_ad B b (h.length + j) = H.size + j := fun j => by
        cases hh : h.length + j with
        | zero => omega
        | succ z => simp only [mj_ad]; omega
      have hrel : mj_Rel B b D dA s nL n0 s0 loc (h ++ (Sum.inl (6, N, fun i => if i < N then Value.ref (h.length + 1 + i) else Value.null) :: mj_rows N M 0)) ls F.heap (locs ++ (List.range N).map fun j => ⟨T.heap.size, j⟩) (cells + 1 + N) (slots + N + N * M) := by
        refine ⟨⟨by rw [f1, hl]; omega, ⟨L0, xs0, by rw [List.getElem?_append_left hlp]; exact h00⟩, fun j x hxj => ?_⟩, hr.2.1, ⟨by rw [f1]; have := hr.2.2.1.1; omega, fun q hq hA => (fold q (Nat.lt_of_lt_of_le hq hr.2.2.1.1)).trans (hr.2.2.1.2.1 q hq hA), fun q hq => ?_⟩, by rw [hl]; omega, by rw [hsl2]; omega⟩
        · by_cases hj : j < h.length
          · rw [List.getElem?_append_left hj] at hxj
            exact (hr.1.2.2 j x hxj).kept (fold _ (hr.1.lt hbB hxj))
          · rw [List.getElem?_append_right (by omega)] at hxj
            obtain ⟨i0, rfl⟩ : ∃ i0, j = h.length + i0 := ⟨j - h.length, by omega⟩
            rw [show h.length + i0 - h.length = i0 by omega] at hxj
            rw [had]
            cases i0 with
            | zero =>
              simp only [List.getElem?_cons_zero, Option.some.injEq] at hxj
              subst hxj
              refine ⟨fun h => absurd h (by decide), fun _ => ⟨Nat.le_refl 6, ?_⟩⟩
              rw [Nat.add_zero, f2]
              unfold mj_mo
              refine congrArg (fun z => some (arrV (dA 6) N z)) (funext fun j => ?_)
              by_cases hjN : j < N
              · simp only [hjN, if_true, mj_rv]
                rw [show h.length + 1 + j = h.length + (1 + j) by omega, had]
                exact congrArg Value.ref (Nat.add_assoc H.size 1 j)
              · simp only [hjN, if_false, mj_rv]
            | succ z =>
              simp only [List.getElem?_cons_succ] at hxj
              obtain ⟨hzN, rfl⟩ := mj_rows_get hxj
              refine ⟨fun h => absurd h (by decide), fun _ => ⟨by decide, ?_⟩⟩
              rw [show H.size + (z + 1) = H.size + 1 + z by omega, frow z hzN]
              unfold mj_mi
              rw [arrV_new]
              rfl
        · rcases List.mem_append.mp hq with h1 | h1
          · exact hr.2.2.1.2.2 q h1
          · obtain ⟨j, -, rfl⟩ := List.mem_map.mp h1
            show B ≤ T.heap.size
            rw [hT]
            exact Nat.le_trans hB hr.2.2.1.1
      obtain ⟨t, a1, b1⟩ := k _ _ _ _ _ hrel F rfl X1
      refine ⟨t, step t ?_, b1⟩
      have h9 : mj_rv B b (Value.ref h.length) = Value.ref T.heap.size := by
        have := had 0
        rw [Nat.add_zero, Nat.add_zero] at this
        simp only [mj_rv, this, hT]
      rw [List.map_cons, h9] at a1
      exact a1
    · cases hs
  · cases hs
theorem mj_s_switch {r1 r2 r3 len : Nat} {dflt lo hi : Int} {offs : Array Int} (C : mj_Ctx p s m args meth c y cc nL B b D dA) (hd : decode cc pc = .ok (.tableswitch dflt lo hi offs, len)) {pc' : Nat} {loc' : mj_L} {st' : List Value} {h' : mj_H} (hs : mj_step (.tableswitch dflt lo hi offs) r1 r2 r3 mj_new pc loc st h = some (pc', loc', st', h')) (hr : mj_Rel B b D dA s nL n0 s0 loc h ls H locs cells slots)
    (k : ∀ (ls' : Array Slot) (H' : Heap) (locs' : List Loc) (cells' slots' : Nat), mj_Rel B b D dA s nL n0 s0 loc' h' ls' H' locs' cells' slots' → W p l e R s m args below meth c H' locs' cells' slots' Q (F0 m pc' ls' (st'.map (mj_rv B b)))) :
    W p l e R s m args below meth c H locs cells slots Q (F0 m pc ls (st.map (mj_rv B b))) := by
  obtain ⟨hx, hb, hml, hown, hts, hK, hB, hbB, hlk, hin⟩ := C
  simp only [mj_step] at hs
  split at hs
  · rename_i x st0
    split at hs
    · rename_i h0
      split at hs
      · rename_i h1
        cases hs
        exact lv_tableOut hx hb hd h0 (Int.toNat_of_nonneg h1).symm (k _ _ _ _ _ hr)
      · cases hs
    · rename_i h0
      split at hs
      · rename_i off hoff
        split at hs
        · rename_i h1
          cases hs
          exact lv_tableIn hx hb hd (fun q => h0 (Or.inl q)) (fun q => h0 (Or.inr q)) hoff (Int.toNat_of_nonneg h1).symm (k _ _ _ _ _ hr)
        · cases hs
      · cases hs
  · cases hs

set_option maxHeartbeats 4000000 in
theorem mj_sim {ins : Instr} {r1 r2 r3 r4 r5 : Nat} (C : mj_Ctx p s m args meth c y cc nL B b D dA) (hok : mj_ok y cc pc (ins, r1, r2, r3, r4, r5) = true) {pc' : Nat} {loc' : mj_L} {st' : List Value} {h' : mj_H} (hs : mj_step ins r1 r2 r3 mj_new pc loc st h = some (pc', loc', st', h')) (hr : mj_Rel B b D dA s nL n0 s0 loc h ls H locs cells slots)
    (hcl : h'.length ≤ n0 + R.cells) (hsl : mj_sl h' ≤ s0 + R.slots)
    (k : ∀ (ls' : Array Slot) (H' : Heap) (locs' : List Loc) (cells' slots' : Nat), mj_Rel B b D dA s nL n0 s0 loc' h' ls' H' locs' cells' slots' → W p l e R s m args below meth c H' locs' cells' slots' Q (F0 m pc' ls' (st'.map (mj_rv B b)))) :
    W p l e R s m args below meth c H locs cells slots Q (F0 m pc ls (st.map (mj_rv B b))) := by
  cases ins
  case iadd  =>
    simp only [mj_ok, Bool.and_eq_true, decide_eq_true_eq] at hok
    exact mj_s_iadd C hok.1 hok.2 hs hr hcl hsl k
  case isub  =>
    simp only [mj_ok, Bool.and_eq_true, decide_eq_true_eq] at hok
    exact mj_s_isub C hok.1 hok.2 hs hr hcl hsl k
  case imul  =>
    simp only [mj_ok, Bool.and_eq_true, decide_eq_true_eq] at hok
    exact mj_s_imul C hok.1 hok.2 hs hr hcl hsl k
  case ineg  =>
    simp only [mj_ok, Bool.and_eq_true, decide_eq_true_eq] at hok
    exact mj_s_ineg C hok.1 hok.2 hs hr hcl hsl k
  case iand  =>
    simp only [mj_ok, Bool.and_eq_true, decide_eq_true_eq] at hok
    exact mj_s_iand C hok.1 hok.2 hs hr hcl hsl k
  case ishr  =>
    simp only [mj_ok, Bool.and_eq_true, decide_eq_true_eq] at hok
    exact mj_s_ishr C hok.1 hok.2 hs hr hcl hsl k
  case iushr  =>
    simp only [mj_ok, Bool.and_eq_true, decide_eq_true_eq] at hok
    exact mj_s_iushr C hok.1 hok.2 hs hr hcl hsl k
  case ladd  =>
    simp only [mj_ok, Bool.and_eq_true, decide_eq_true_eq] at hok
    exact mj_s_ladd C hok.1 hok.2 hs hr hcl hsl k
  case lsub  =>
    simp only [mj_ok, Bool.and_eq_true, decide_eq_true_eq] at hok
    exact mj_s_lsub C hok.1 hok.2 hs hr hcl hsl k
  case lmul  =>
    simp only [mj_ok, Bool.and_eq_true, decide_eq_true_eq] at hok
    exact mj_s_lmul C hok.1 hok.2 hs hr hcl hsl k
  case lneg  =>
    simp only [mj_ok, Bool.and_eq_true, decide_eq_true_eq] at hok
    exact mj_s_lneg C hok.1 hok.2 hs hr hcl hsl k
  case land  =>
    simp only [mj_ok, Bool.and_eq_true, decide_eq_true_eq] at hok
    exact mj_s_land C hok.1 hok.2 hs hr hcl hsl k
  case lor  =>
    simp only [mj_ok, Bool.and_eq_true, decide_eq_true_eq] at hok
    exact mj_s_lor C hok.1 hok.2 hs hr hcl hsl k
  case lshl  =>
    simp only [mj_ok, Bool.and_eq_true, decide_eq_true_eq] at hok
    exact mj_s_lshl C hok.1 hok.2 hs hr hcl hsl k
  case lcmp  =>
    simp only [mj_ok, Bool.and_eq_true, decide_eq_true_eq] at hok
    exact mj_s_lcmp C hok.1 hok.2 hs hr hcl hsl k
  case i2l  =>
    simp only [mj_ok, Bool.and_eq_true, decide_eq_true_eq] at hok
    exact mj_s_i2l C hok.1 hok.2 hs hr hcl hsl k
  case l2i  =>
    simp only [mj_ok, Bool.and_eq_true, decide_eq_true_eq] at hok
    exact mj_s_l2i C hok.1 hok.2 hs hr hcl hsl k
  case i2b  =>
    simp only [mj_ok, Bool.and_eq_true, decide_eq_true_eq] at hok
    exact mj_s_i2b C hok.1 hok.2 hs hr hcl hsl k
  case i2f  =>
    simp only [mj_ok, Bool.and_eq_true, decide_eq_true_eq] at hok
    exact mj_s_i2f C hok.1 hok.2 hs hr hcl hsl k
  case i2d  =>
    simp only [mj_ok, Bool.and_eq_true, decide_eq_true_eq] at hok
    exact mj_s_i2d C hok.1 hok.2 hs hr hcl hsl k
  case dcmp op =>
    simp only [mj_ok, Bool.and_eq_true, decide_eq_true_eq] at hok
    exact mj_s_dcmp C hok.1 hok.2 hs hr hcl hsl k
  case idiv  =>
    simp only [mj_ok, Bool.and_eq_true, decide_eq_true_eq] at hok
    exact mj_s_idiv C hok.1 hok.2 hs hr hcl hsl k
  case irem  =>
    simp only [mj_ok, Bool.and_eq_true, decide_eq_true_eq] at hok
    exact mj_s_irem C hok.1 hok.2 hs hr hcl hsl k
  case ldiv  =>
    simp only [mj_ok, Bool.and_eq_true, decide_eq_true_eq] at hok
    exact mj_s_ldiv C hok.1 hok.2 hs hr hcl hsl k
  case lrem  =>
    simp only [mj_ok, Bool.and_eq_true, decide_eq_true_eq] at hok
    exact mj_s_lrem C hok.1 hok.2 hs hr hcl hsl k
  case fdiv  =>
    simp only [mj_ok, Bool.and_eq_true, decide_eq_true_eq] at hok
    exact mj_s_fdiv C hok.1 hok.2 hs hr hcl hsl k
  case ddiv  =>
    simp only [mj_ok, Bool.and_eq_true, decide_eq_true_eq] at hok
    exact mj_s_ddiv C hok.1 hok.2 hs hr hcl hsl k
  case f2d  =>
    simp only [mj_ok, Bool.and_eq_true, decide_eq_true_eq] at hok
    exact mj_s_f2d C hok.1 hok.2 hs hr hcl hsl k
  case iconst n =>
    simp only [mj_ok, Bool.and_eq_true, decide_eq_true_eq] at hok
    exact mj_s_iconst C hok.1 hok.2 hs hr hcl hsl k
  case lconst n =>
    simp only [mj_ok, Bool.and_eq_true, decide_eq_true_eq] at hok
    exact mj_s_lconst C hok.1 hok.2 hs hr hcl hsl k
  case bipush n =>
    simp only [mj_ok, Bool.and_eq_true, decide_eq_true_eq] at hok
    exact mj_s_bipush C hok.1 hok.2 hs hr hcl hsl k
  case sipush n =>
    simp only [mj_ok, Bool.and_eq_true, decide_eq_true_eq] at hok
    exact mj_s_sipush C hok.1 hok.2 hs hr hcl hsl k
  case iload n =>
    simp only [mj_ok, Bool.and_eq_true, decide_eq_true_eq] at hok
    exact mj_s_iload C hok.1 hok.2 hs hr hcl hsl k
  case iload_n n =>
    simp only [mj_ok, Bool.and_eq_true, decide_eq_true_eq] at hok
    exact mj_s_iload_n C hok.1 hok.2 hs hr hcl hsl k
  case lload n =>
    simp only [mj_ok, Bool.and_eq_true, decide_eq_true_eq] at hok
    exact mj_s_lload C hok.1 hok.2 hs hr hcl hsl k
  case lload_n n =>
    simp only [mj_ok, Bool.and_eq_true, decide_eq_true_eq] at hok
    exact mj_s_lload_n C hok.1 hok.2 hs hr hcl hsl k
  case dload n =>
    simp only [mj_ok, Bool.and_eq_true, decide_eq_true_eq] at hok
    exact mj_s_dload C hok.1 hok.2 hs hr hcl hsl k
  case dload_n n =>
    simp only [mj_ok, Bool.and_eq_true, decide_eq_true_eq] at hok
    exact mj_s_dload_n C hok.1 hok.2 hs hr hcl hsl k
  case aload n =>
    simp only [mj_ok, Bool.and_eq_true, decide_eq_true_eq] at hok
    exact mj_s_aload C hok.1 hok.2 hs hr hcl hsl k
  case aload_n n =>
    simp only [mj_ok, Bool.and_eq_true, decide_eq_true_eq] at hok
    exact mj_s_aload_n C hok.1 hok.2 hs hr hcl hsl k
  case istore n =>
    simp only [mj_ok, Bool.and_eq_true, decide_eq_true_eq] at hok
    exact mj_s_istore C hok.1 hok.2 hs hr hcl hsl k
  case istore_n n =>
    simp only [mj_ok, Bool.and_eq_true, decide_eq_true_eq] at hok
    exact mj_s_istore_n C hok.1 hok.2 hs hr hcl hsl k
  case astore n =>
    simp only [mj_ok, Bool.and_eq_true, decide_eq_true_eq] at hok
    exact mj_s_astore C hok.1 hok.2 hs hr hcl hsl k
  case astore_n n =>
    simp only [mj_ok, Bool.and_eq_true, decide_eq_true_eq] at hok
    exact mj_s_astore_n C hok.1 hok.2 hs hr hcl hsl k
  case lstore n =>
    simp only [mj_ok, Bool.and_eq_true, decide_eq_true_eq] at hok
    exact mj_s_lstore C hok.1 hok.2 hs hr hcl hsl k
  case lstore_n n =>
    simp only [mj_ok, Bool.and_eq_true, decide_eq_true_eq] at hok
    exact mj_s_lstore_n C hok.1 hok.2 hs hr hcl hsl k
  case dstore n =>
    simp only [mj_ok, Bool.and_eq_true, decide_eq_true_eq] at hok
    exact mj_s_dstore C hok.1 hok.2 hs hr hcl hsl k
  case dstore_n n =>
    simp only [mj_ok, Bool.and_eq_true, decide_eq_true_eq] at hok
    exact mj_s_dstore_n C hok.1 hok.2 hs hr hcl hsl k
  case iinc n z =>
    simp only [mj_ok, Bool.and_eq_true, decide_eq_true_eq] at hok
    exact mj_s_iinc C hok.1 hok.2 hs hr hcl hsl k
  case goto off =>
    simp only [mj_ok, Bool.and_eq_true, decide_eq_true_eq] at hok
    exact mj_s_goto C hok.1 hok.2 hs hr hcl hsl k
  case ifCond cd off =>
    simp only [mj_ok, Bool.and_eq_true, decide_eq_true_eq] at hok
    exact mj_s_ifCond C hok.1 hok.2 hs hr hcl hsl k
  case if_icmp cd off =>
    simp only [mj_ok, Bool.and_eq_true, decide_eq_true_eq] at hok
    exact mj_s_if_icmp C hok.1 hok.2 hs hr hcl hsl k
  case dup  =>
    simp only [mj_ok, Bool.and_eq_true, decide_eq_true_eq] at hok
    exact mj_s_dup C hok.1 hok.2 hs hr hcl hsl k
  case dup2  =>
    simp only [mj_ok, Bool.and_eq_true, decide_eq_true_eq] at hok
    exact mj_s_dup2 C hok.1 hok.2 hs hr hcl hsl k
  case pop  =>
    simp only [mj_ok, Bool.and_eq_true, decide_eq_true_eq] at hok
    exact mj_s_pop C hok.1 hok.2 hs hr hcl hsl k
  case pop2  =>
    simp only [mj_ok, Bool.and_eq_true, decide_eq_true_eq] at hok
    exact mj_s_pop2 C hok.1 hok.2 hs hr hcl hsl k
  case ldc i =>
    simp only [mj_ok, Bool.and_eq_true, decide_eq_true_eq] at hok
    exact mj_s_ldc C hok.1 hok.2 hs hr hcl hsl k
  case ldc_w i =>
    simp only [mj_ok, Bool.and_eq_true, decide_eq_true_eq] at hok
    exact mj_s_ldc_w C hok.1 hok.2 hs hr hcl hsl k
  case ldc2_w i =>
    simp only [mj_ok, Bool.and_eq_true, decide_eq_true_eq] at hok
    exact mj_s_ldc2_w C hok.1 hok.2 hs hr hcl hsl k
  case getfield i =>
    simp only [mj_ok, Bool.and_eq_true, decide_eq_true_eq] at hok
    exact mj_s_getfield C hok.1 hok.2 hs hr hcl hsl k
  case putfield i =>
    simp only [mj_ok, Bool.and_eq_true, decide_eq_true_eq] at hok
    exact mj_s_putfield C hok.1 hok.2 hs hr hcl hsl k
  case newarray i =>
    simp only [mj_ok, Bool.and_eq_true, decide_eq_true_eq] at hok
    exact mj_s_newarray C hok.1 hok.2 hs hr hcl hsl k
  case anewarray i =>
    simp only [mj_ok, Bool.and_eq_true, decide_eq_true_eq] at hok
    exact mj_s_anewarray C hok.1 hok.2 hs hr hcl hsl k
  case new i =>
    simp only [mj_ok, Bool.and_eq_true, decide_eq_true_eq] at hok
    exact mj_s_new C hok.1 hok.2 hs hr hcl hsl k
  case arraylength  =>
    simp only [mj_ok, Bool.and_eq_true, decide_eq_true_eq] at hok
    exact mj_s_arraylength C hok.1 hok.2 hs hr hcl hsl k
  case iaload  =>
    simp only [mj_ok, Bool.and_eq_true, decide_eq_true_eq] at hok
    exact mj_s_iaload C hok.1 hok.2 hs hr hcl hsl k
  case laload  =>
    simp only [mj_ok, Bool.and_eq_true, decide_eq_true_eq] at hok
    exact mj_s_laload C hok.1 hok.2 hs hr hcl hsl k
  case baload  =>
    simp only [mj_ok, Bool.and_eq_true, decide_eq_true_eq] at hok
    exact mj_s_baload C hok.1 hok.2 hs hr hcl hsl k
  case aaload  =>
    simp only [mj_ok, Bool.and_eq_true, decide_eq_true_eq] at hok
    exact mj_s_aaload C hok.1 hok.2 hs hr hcl hsl k
  case iastore  =>
    simp only [mj_ok, Bool.and_eq_true, decide_eq_true_eq] at hok
    exact mj_s_iastore C hok.1 hok.2 hs hr hcl hsl k
  case lastore  =>
    simp only [mj_ok, Bool.and_eq_true, decide_eq_true_eq] at hok
    exact mj_s_lastore C hok.1 hok.2 hs hr hcl hsl k
  case bastore  =>
    simp only [mj_ok, Bool.and_eq_true, decide_eq_true_eq] at hok
    exact mj_s_bastore C hok.1 hok.2 hs hr hcl hsl k
  case aastore  =>
    simp only [mj_ok, Bool.and_eq_true, decide_eq_true_eq] at hok
    exact mj_s_aastore C hok.1 hok.2 hs hr hcl hsl k
  case multianewarray i dm =>
    simp only [mj_ok, Bool.and_eq_true, decide_eq_true_eq] at hok
    exact mj_s_multi C hok.1 hok.2 hs hr hcl hsl k
  case tableswitch d lo hi os =>
    simp only [mj_ok, decide_eq_true_eq] at hok
    exact mj_s_switch C hok hs hr k
  all_goals (simp only [mj_step] at hs; cases hs)
end MJC
end
section
/-! The small machine's loop: returns, throws, calls, catches; and that the machine does it. -/
section MJT
variable {p : Program} {l : Launch} {e : Env} {R : Room} {s : State} {m : MethodId} {args : Array Value} {below : List Frame} {meth : Method} {c : Code} {H : Heap} {locs : List Loc} {cells slots : Nat} {Q : State → Prop}
variable {mc ms : Nat} {free : Addr → Prop} {A0 A1 : Nat → Prop} {H0 : Heap} {a : Array Value} {ls : Array Slot} {st0 rest : List Value}
variable {Qc : Array Value → State → Outcome → State → Prop} {XC : String → State → State → Prop}
/-- 'throw new E()' (follows vx_throw0), with the size of the heap behind it -/
theorem mj_throw0 {cc : ByteArray} {pc : Nat} (hexec : p.tables.exec = Jvm.exec) (hb : c.code = cc) (hl : l.stackTraces = false) {own cls : String} {names : List String} {ik ic mc ms : Nat} {A : Nat → Prop}
    (hown : s.vm.findClass own = some m.cls) (hcls : Bundle.fit cls = true) (hnames : ∀ n ∈ names, Bundle.fit n = true)
    (hk : (Cond.classLink own ik cls).before args s = true) (hini : (Cond.initialized cls).before args s = true) (hat : ∀ w ∈ vx_at0 own ic cls names, w.before args s = true)
    (hgood : ∀ w ∈ Cond.classLink own ik cls :: Cond.initialized cls :: vx_at0 own ic cls names, vx_ot w = true)
    (hU : vx_Zq Bundle.tN "UNASSIGNED_STACK" Bundle.steD A s s.heap) (hN : vx_Zq Bundle.tN "SUPPRESSED_SENTINEL" Bundle.listD A s s.heap) (hS : va_S A s.heap H locs) (hsize : ls.size = c.maxLocals)
    (d0 : decode cc pc = .ok (.new ik, 3)) (d3 : decode cc (pc + 3) = .ok (.dup, 1)) (d4 : decode cc (pc + 4) = .ok (.invokespecial ic, 3)) (d7 : decode cc (pc + 7) = .ok (.athrow, 1))
    (hout : ∀ x ∈ c.exceptionTable.toList, covers x (pc + 7) = false)
    (hRframes : names.length + 3 < R.frames) (hRlocals : (rest.map fun v => v.category).sum + (13 * (names.length + 1) + 42) ≤ R.locals) (hRcells : cells + 1 ≤ R.cells) (hRslots : slots + 6 ≤ R.slots) (hlocks : meth.locks = false)
    (hx : ∀ t : State, s.vm.Alike t.vm → t.heap.size = H.size + 1 → (∀ q : Nat, q < H.size → t.heap[q]? = H[q]?) → XC cls s t)
    (hf : ∀ z ∈ locs, free z.base) (hc : cells + 1 ≤ mc) (hs : slots + 6 ≤ ms) :
    W p l e R s m args below meth c H locs cells slots (vx_MQ below Qc XC args s mc ms free) (F0 m pc ls rest) := by
  intro T hT X
  have htr : e.platform.stackTraces = false := (show e.platform.stackTraces = l.stackTraces by rw [X.admits.platform]).trans hl
  have Y := vx_rebase X (R' := { frames := R.frames, locals := R.locals, cells := 1, slots := 6 }) (Nat.le_refl _) (Nat.le_refl _) hRcells hRslots
  obtain ⟨s', hA⟩ : ∃ z, z = (T.setVm s.vm).setFrames (.invoking m args :: below) := ⟨_, rfl⟩
  rw [← hA] at Y
  have hvm : s'.vm = s.vm := by rw [hA]; rfl
  have hhp : s'.heap = H := by rw [hA]; exact hT
  have hW0 : s.WarmedH s'.vm := by rw [hvm]; exact State.WarmedH.refl s
  have hat' : ∀ w ∈ vx_at0 own ic cls names, w.before args s' = true := fun w hw => vx_ot_at hW0 hvm.symm (hgood w (List.mem_cons_of_mem _ (List.mem_cons_of_mem _ hw))) (hat w hw)
  have hk' : (Cond.classLink own ik cls).before args s' = true := vx_ot_at hW0 hvm.symm (hgood _ List.mem_cons_self) hk
  have hini' : (Cond.initialized cls).before args s' = true := vx_ot_at hW0 hvm.symm (hgood _ (List.mem_cons_of_mem _ List.mem_cons_self)) hini
  have hU' : vx_Zq Bundle.tN "UNASSIGNED_STACK" Bundle.steD A s' s'.heap := by rw [hhp]; exact vx_Zq.moved hW0.alike (hU.kept hS.2.1)
  have hN' : vx_Zq Bundle.tN "SUPPRESSED_SENTINEL" Bundle.listD A s' s'.heap := by rw [hhp]; exact vx_Zq.moved hW0.alike (hN.kept hS.2.1)
  have h : ∀ w ∈ Bundle.ownAtoms0 own ic cls names, w.before args s' = true := vx_own hat' (vx_isRefq hU'.1) (vx_isRefq hN'.1) hU'.2.word hN'.2.word
  have hown' : s'.vm.findClass own = some m.cls := by rw [hvm]; exact hown
  have hins : (Cond.instantiable cls 6).before args s' = true := h _ (by simp [Bundle.ownAtoms0])
  obtain ⟨vm₁, cX, kX, hfX, hkX, -, -, X₁, st1⟩ := Y.newCold hexec (own := own) (C := cls) (index := ik) (n := 6) hown' hk' hins hini'
    (g := F0 m pc ls rest) rfl (by rw [hb]; exact d0) (Nat.le_refl _) (Nat.le_refl _)
  generalize hT1 : (T.setVm vm₁).pushCell { cls := cX, slots := kX.instanceTypes.map defaultValue, vm := .none } = T1 at X₁ st1
  have hcat : (Value.ref T.heap.size).category = 1 := rfl
  have hcellA : T1.heap[T.heap.size]? = some (freshCell cX kX) := by rw [← hT1]; exact State.heap_pushCell_size _ _
  have d3' : decode c.code (pc + 3) = .ok (.dup, 1) := by rw [hb]; exact d3
  obtain ⟨U, hsteps, hrun, hend, hW, hsame, ce, hce, hO⟩ := X₁.ctorThrow0 hexec htr (own := own) (cls := cls) (names := names) (ic := ic) hown' hcls hnames h (fun x hx => nomatch hx) hfX hkX hcellA (by rw [hhp, hT]; exact Nat.le_refl _)
    (g := { method := m, pc := pc + 4, locals := ls, stack := .ref T.heap.size :: .ref T.heap.size :: rest, locked := none }) rfl hsize rfl rfl (rest := rest) rfl
    (by rw [hb]; exact d4) (by rw [hb]; exact d7) hout hRframes (by simp only [List.map_cons, List.sum_cons, hcat]; omega) hlocks
  obtain ⟨f1, f2⟩ := vx_frame hsame
  rw [hhp] at f1 f2
  have hz1 : U.heap.size = H.size + 1 := by
    have h3 : U.heap.size ≤ s'.heap.size + _ := hsame.2.2.1
    have h4 := (Array.getElem?_eq_some_iff.mp hce).1
    rw [hhp] at h3
    rw [hT] at h4
    have h5 : U.heap.size ≤ H.size + 1 := by simpa using h3
    omega
  have hWs : s.WarmedH U.vm := State.WarmedH.trans hW0 hW
  have hcl : s.vm.findClass cls = some ce.cls := by
    have h9 := hO.cls
    rw [hvm] at h9
    exact h9
  have hall : s.sameButNew ({ U with vm := s.vm } : State) locs mc ms := by
    subst hA
    obtain ⟨e1, e2⟩ := hsame
    rw [State.setFrames_setFrames] at e1
    have h2 : (T.setVm s.vm).sameButNew ({ U with vm := s.vm } : State) [] (0 + 1) (0 + 6) := ⟨e1, e2⟩
    have h3 := X.same.trans h2
    rw [List.append_nil] at h3
    exact h3.mono hc hs
  refine ⟨U, ?_, .threw T.heap.size, hrun, hend, Or.inr ⟨T.heap.size, rfl, cls, ce, locs, hx U hWs.alike hz1 (fun q hq => f2 q hq (fun z hz => nomatch hz)), hce, hO.vm, hcl, hWs, hall, hf⟩⟩
  refine st1 _ ?_
  show Steps p.tables e below (T1.setTop { method := m, pc := pc + 3, locals := ls, stack := .ref T.heap.size :: rest, locked := none }) _
  jvm_step X₁.here [X₁.here.top, hexec, d3', Value.category]
  exact hsteps
end MJT

/-- a method: its name, bytes, room for locals, what it returns, its instructions, its handlers (start, end, handler, class; the exception's number, the local, where it goes on), its kind (0 static, 1 virtual, 2 a constructor) and the places of its words -/
abbrev mj_M : Type := MethodName × ByteArray × Nat × Option FieldType × (Nat → Option mj_I) × List (Nat × Nat × Nat × Nat × Nat × Nat × Nat) × Nat × Nat × Nat × Nat × Nat
def mj_exc (i : Nat) : String := match i with
  | 0 => "java/lang/IndexOutOfBoundsException"
  | 1 => "java/lang/IllegalStateException"
  | 2 => "java/lang/IllegalArgumentException"
  | 3 => "java/lang/ArithmeticException"
  | _ => "java/util/NoSuchElementException"
def mj_cat (st : List Value) : Nat := (st.map fun v => v.category).sum
def mj_kill (loc : mj_L) (k : Nat) : mj_L := (mj_st1 loc k (.int 0)).set k none
def mj_find (hs : List (Nat × Nat × Nat × Nat × Nat × Nat × Nat)) (pc i : Nat) : Option (Nat × Nat) := match hs with
  | [] => none
  | (a, b, _, _, x, k, nx) :: t => if a ≤ pc ∧ pc < b ∧ x = i then some (k, nx) else mj_find t pc i
def mj_isint (v : Value) : Bool := match v with
  | .int _ => true
  | _ => false
def mj_islong (v : Value) : Bool := match v with
  | .long _ => true
  | _ => false
def mj_cpok (t : Nat) (f : Nat → Value) (sp n : Nat) : Bool := (List.range n).all (fun i => match t with
  | 0 => mj_isint (f (sp + i))
  | _ => mj_islong (f (sp + i)))
/-- the methods that are not walked: max, min, arraycopy, Object() -/
def mj_prim (r3 : Nat) (st : List Value) (h : mj_H) : Option (List Value × mj_H) := match r3 with
  | 2 => match st with
    | .int y :: .int x :: st => if mj_cat st ≤ 20 then some (.int (if x < y then y else x) :: st, h) else none
    | _ => none
  | 3 => match st with
    | .int y :: .int x :: st => if mj_cat st ≤ 20 then some (.int (if y < x then y else x) :: st, h) else none
    | _ => none
  | 4 => match st with
    | .int n :: .int dp :: .ref a1 :: .int sp :: .ref a0 :: st => match h[a0]? with
      | some (.inl (t0, n0, f)) => match h[a1]? with
        | some (.inl (t1, n1, g)) => if mj_cat st ≤ 20 ∧ t0 = t1 ∧ (t0 = 0 ∨ t0 = 1) ∧ 0 ≤ sp ∧ 0 ≤ dp ∧ 0 ≤ n ∧ sp.toNatClampNeg + n.toNatClampNeg ≤ n0 ∧ dp.toNatClampNeg + n.toNatClampNeg ≤ n1 ∧ mj_cpok t0 f sp.toNatClampNeg n.toNatClampNeg = true then some (st, h.set a1 (.inl (t1, n1, va_cpy f g sp.toNatClampNeg dp.toNatClampNeg n.toNatClampNeg))) else none
        | _ => none
      | _ => none
    | _ => none
  | 5 => match st with
    | .ref _ :: st => if mj_cat st ≤ 20 then some (st, h) else none
    | _ => none
  | _ => none
def mj_retv (ins : Instr) (ret : Option FieldType) (st : List Value) : Option (Option Value) := match ins with
  | .ireturn => match st with
    | [.int v] => match ret with
      | some .int => some (some (.int v))
      | some .boolean => if v = 0 ∨ v = 1 then some (some (.int v)) else none
      | _ => none
    | _ => none
  | .lreturn => match st with
    | [.long v] => match ret with
      | some .long => some (some (.long v))
      | _ => none
    | _ => none
  | .freturn => match st with
    | [.float v] => match ret with
      | some .float => some (some (.float v))
      | _ => none
    | _ => none
  | .dreturn => match st with
    | [.double v] => match ret with
      | some .double => some (some (.double v))
      | _ => none
    | _ => none
  | .areturn => match st with
    | [.ref v] => match ret with
      | some (.object _) => some (some (.ref v))
      | some (.array _) => some (some (.ref v))
      | _ => none
    | _ => none
  | .return_ => match st with
    | [] => match ret with
      | none => some none
      | _ => none
    | _ => none
  | _ => none
/-- which kind of an instruction it is: 1 a return, 2 a throw, 3 a call of a method of the table, 4 a call of another one, 0 all else -/
def mj_kind (ins : Instr) (r3 : Nat) : Nat := match ins with
  | .ireturn => 1
  | .lreturn => 1
  | .freturn => 1
  | .dreturn => 1
  | .areturn => 1
  | .return_ => 1
  | .new _ => if r3 = 1 then 2 else 0
  | .invokestatic _ => if r3 ≤ 1 then 3 else 4
  | .invokevirtual _ => if r3 ≤ 1 then 3 else 4
  | .invokespecial _ => if r3 ≤ 1 then 3 else 4
  | _ => 0
/-- the receiver of a call by invokevirtual is an object of that class, of invokespecial an object -/
def mj_recv (ins : Instr) (r2 r5 : Nat) (st : List Value) (h : mj_H) : Bool := match ins with
  | .invokestatic _ => true
  | .invokevirtual _ => match r2, st.drop (r2 - 1) with
    | 0, _ => false
    | _, .ref a :: _ => match h[a]? with
      | some (.inr (ci, _)) => decide (ci = r5)
      | _ => false
    | _, _ => false
  | _ => match r2, st.drop (r2 - 1) with
    | 0, _ => false
    | _, .ref _ :: _ => true
    | _, _ => false
def mj_loop (call : Nat → List Value → mj_H → Option mj_R) (M : mj_M) : Nat → Nat → mj_L → List Value → mj_H → Option mj_R
  | 0, _, _, _, _ => none
  | F + 1, pc, loc, st, h =>
    match M.2.2.2.2.1 pc with
    | none => none
    | some (ins, r1, r2, r3, _, r5) =>
      match mj_kind ins r3 with
      | 0 => match mj_step ins r1 r2 r3 mj_new pc loc st h with
        | some (pc', loc', st', h') => mj_loop call M F pc' loc' st' h'
        | none => none
      | 1 => match mj_retv ins M.2.2.2.1 st with
        | some v => some (.inl v, h)
        | none => none
      | 2 => if M.2.2.2.2.2.1 = [] ∧ mj_cat st ≤ 8 then some (.inr r1, h ++ [.inr (99, [.null, .null, .null, .null, .null, .null])]) else none
      | 3 => if r2 ≤ st.length ∧ mj_cat (st.drop r2) ≤ 8 ∧ mj_recv ins r2 r5 st h = true then
          match call r1 (st.take r2).reverse h with
          | some (.inl v, h') => mj_loop call M F (pc + 3) loc (v.toList ++ st.drop r2) h'
          | some (.inr i, h') => match M.2.2.2.2.2.1 with
            | [] => some (.inr i, h')
            | hs => match mj_find hs pc i with
              | some (k, nx) => if k < loc.length then mj_loop call M F nx (mj_kill loc k) [] h' else none
              | none => none
          | none => none
        else none
      | _ => match mj_prim r3 st h with
        | some (st', h') => mj_loop call M F (pc + 3) loc st' h'
        | none => none
def mj_loc0 (n : Nat) (as : List Value) : mj_L := match as with
  | [] => List.replicate n none
  | v :: t => if v.category = 2 then some v :: none :: mj_loc0 (n - 2) t else some v :: mj_loc0 (n - 1) t
/-- calls at most d deep, F steps a call -/
def mj_run (P : List mj_M) (F : Nat) : Nat → Nat → List Value → mj_H → Option mj_R
  | 0 => fun _ _ _ => none
  | d + 1 => fun j as h => match P[j]? with
    | none => none
    | some M => if (mj_loc0 M.2.2.1 as).length = M.2.2.1 then mj_loop (mj_run P F d) M F 0 (mj_loc0 M.2.2.1 as) [] h else none
end
section
/-! Nothing shrinks; returns; the methods that are not walked. -/
theorem mj_sl_app (a b : mj_H) : mj_sl (a ++ b) = mj_sl a + mj_sl b := by simp [mj_sl]
set_option maxHeartbeats 4000000 in
theorem mj_step_mono {ins : Instr} {r1 r2 r3 : Nat} {fl : Nat → List Value} {pc : Nat} {loc : mj_L} {st : List Value} {h : mj_H} {pc' : Nat} {loc' : mj_L} {st' : List Value} {h' : mj_H} (hs : mj_step ins r1 r2 r3 fl pc loc st h = some (pc', loc', st', h')) : h.length ≤ h'.length ∧ mj_sl h ≤ mj_sl h' := by
  cases ins <;> simp only [mj_step] at hs <;> (try cases hs) <;> (try exact ⟨Nat.le_refl _, Nat.le_refl _⟩) <;> (try (rw [List.length_append, mj_sl_app]; exact ⟨Nat.le_add_right _ _, Nat.le_add_right _ _⟩)) <;> (try (obtain ⟨v, hv, he⟩ := Option.map_eq_some_iff.mp hs; cases he; exact ⟨Nat.le_refl _, Nat.le_refl _⟩)) <;>
    (repeat' split at hs) <;> (try cases hs) <;> first
      | exact ⟨Nat.le_refl _, Nat.le_refl _⟩
      | (rw [List.length_append, mj_sl_app]; exact ⟨Nat.le_add_right _ _, Nat.le_add_right _ _⟩)
      | (refine ⟨by rw [List.length_set]; exact Nat.le_refl _, ?_⟩
         rw [mj_sl_set (by assumption) (by simp [mj_slot])]
         exact Nat.le_refl _)
theorem mj_prim_mono {r3 : Nat} {st : List Value} {h : mj_H} {st' : List Value} {h' : mj_H} (hs : mj_prim r3 st h = some (st', h')) : h.length ≤ h'.length ∧ mj_sl h ≤ mj_sl h' := by
  unfold mj_prim at hs
  (repeat' split at hs) <;> (try cases hs) <;> first
    | exact ⟨Nat.le_refl _, Nat.le_refl _⟩
    | (refine ⟨by rw [List.length_set]; exact Nat.le_refl _, ?_⟩
       rw [mj_sl_set (by assumption) (by simp [mj_slot])]
       exact Nat.le_refl _)
theorem mj_loop_mono {call : Nat → List Value → mj_H → Option mj_R} (hcall : ∀ j as h r, call j as h = some r → h.length ≤ r.2.length ∧ mj_sl h ≤ mj_sl r.2) {M : mj_M} : ∀ {F pc : Nat} {loc : mj_L} {st : List Value} {h : mj_H} {r : mj_R}, mj_loop call M F pc loc st h = some r → h.length ≤ r.2.length ∧ mj_sl h ≤ mj_sl r.2
  | 0, _, _, _, _, _, hs => by cases hs
  | F + 1, pc, loc, st, h, r, hs => by
    unfold mj_loop at hs
    split at hs
    · cases hs
    · split at hs
      · split at hs
        · rename_i h1
          have h2 := mj_step_mono h1
          have h3 := mj_loop_mono hcall hs
          exact ⟨Nat.le_trans h2.1 h3.1, Nat.le_trans h2.2 h3.2⟩
        · cases hs
      · split at hs
        · cases hs; exact ⟨Nat.le_refl _, Nat.le_refl _⟩
        · cases hs
      · split at hs
        · cases hs
          rw [List.length_append, mj_sl_app]; exact ⟨Nat.le_add_right _ _, Nat.le_add_right _ _⟩
        · cases hs
      · split at hs
        · split at hs
          · rename_i h1
            have h2 := hcall _ _ _ _ h1
            have h3 := mj_loop_mono hcall hs
            exact ⟨Nat.le_trans h2.1 h3.1, Nat.le_trans h2.2 h3.2⟩
          · rename_i h1
            have h2 := hcall _ _ _ _ h1
            split at hs
            · cases hs; exact h2
            · split at hs
              · split at hs
                · have h3 := mj_loop_mono hcall hs
                  exact ⟨Nat.le_trans h2.1 h3.1, Nat.le_trans h2.2 h3.2⟩
                · cases hs
              · cases hs
          · cases hs
        · cases hs
      · split at hs
        · rename_i h1
          have h2 := mj_prim_mono h1
          have h3 := mj_loop_mono hcall hs
          exact ⟨Nat.le_trans h2.1 h3.1, Nat.le_trans h2.2 h3.2⟩
        · cases hs
theorem mj_run_mono (P : List mj_M) (F : Nat) : ∀ (d j : Nat) (as : List Value) (h : mj_H) (r : mj_R), mj_run P F d j as h = some r → h.length ≤ r.2.length ∧ mj_sl h ≤ mj_sl r.2
  | 0, _, _, _, _, hs => by cases hs
  | d + 1, j, as, h, r, hs => by
    simp only [mj_run] at hs
    split at hs
    · cases hs
    · split at hs
      · exact mj_loop_mono (mj_run_mono P F d) hs
      · cases hs
theorem mj_w_math : (mj_inw (.static Lib.Math.max.name) && mj_inw (.static Lib.Math.min.name) && mj_inw (.initialized "java/lang/Math") && mj_inw (.code Lib.Math.max.name Lib.Math.max.code 2 (some .int)) && mj_inw (.code Lib.Math.min.name Lib.Math.min.code 2 (some .int))) = true := by decide +kernel
theorem mj_w_copy : (mj_inw (.native arraycopyName) && mj_inw (.static arraycopyName) && mj_inw (.initialized "java/lang/System")) = true := by decide +kernel
theorem mj_w_obj : (mj_inw (.instanceMethod Lib.objectInit) && mj_inw (.code Lib.objectInit ⟨#[0xb1]⟩ 1 none)) = true := by decide +kernel
section MJP
variable {p : Program} {l : Launch} {e : Env} {R : Room} {s : State} {m : MethodId} {args : Array Value} {below : List Frame} {meth : Method} {c : Code} {H : Heap} {locs : List Loc} {cells slots : Nat} {Q : State → Prop}
variable {y : MethodName} {cc : ByteArray} {nL B b n0 s0 : Nat} {D : va_G} {dA : Nat → ClassId} {pc : Nat} {loc : mj_L} {st : List Value} {h : mj_H} {ls : Array Slot}
theorem mj_sim_ret {ins : Instr} {v : Option Value} {ret : Option FieldType} {Qc : Array Value → State → Outcome → State → Prop} {XC : String → State → State → Prop} (hx : p.tables.exec = Jvm.exec) (hb : c.code = cc) (hlk : meth.locks = false) (hr : meth.sig.returnType = ret) (hd : decode cc pc = .ok (ins, 1)) (hs : mj_retv ins ret st = some v)
    (hq : ∀ t : State, t.heap = H → s.WarmedH t.vm → Qc args s (.returned (v.map (mj_rv B b))) t) (hf : ∀ q ∈ locs, B ≤ q.base) :
    W p l e R s m args below meth c H locs cells slots (vx_MQ below Qc XC args s cells slots (fun q => B ≤ q)) (F0 m pc ls (st.map (mj_rv B b))) := by
  cases ins <;> simp only [mj_retv] at hs <;> (repeat' split at hs) <;> (try cases hs)
  all_goals first
    | exact vx_ret (W.iret hx hb hr hq hf hd hlk)
    | exact vx_ret (W.lret hx hb hr hq hf hd hlk)
    | exact vx_ret (W.fret hx hb hr hq hf hd hlk)
    | exact vx_ret (W.dret hx hb hr hq hf hd hlk)
    | exact vx_ret (W.vret hx hb hr hq hf hd hlk)
    | exact vx_ret (W.aret hx hb hr (Or.inl ⟨_, rfl⟩) (Or.inr ⟨_, rfl⟩) hq hf hd hlk)
    | exact vx_ret (W.aret hx hb hr (Or.inr ⟨_, rfl⟩) (Or.inr ⟨_, rfl⟩) hq hf hd hlk)
    | (rename_i h0; exact vx_ret (W.zret hx hb hr (by rcases h0 with rfl | rfl <;> rfl) hq hf hd hlk))
theorem mj_cat_map (B b : Nat) (st : List Value) : ((st.map (mj_rv B b)).map fun v => v.category).sum = mj_cat st := by
  unfold mj_cat
  rw [List.map_map]
  congr 1
  apply List.map_congr_left
  intro v _
  exact mj_rv_cat B b v
/-- what a call of a method that is not walked was resolved to -/
def mj_okP (y : MethodName) (cc : ByteArray) (pc : Nat) (ins : Instr) (r3 r4 : Nat) : Bool := match ins with
  | .invokestatic i => decide (decode cc pc = .ok (.invokestatic i, 3)) && (match r3 with
    | 2 => mj_w r4 (.methodLink y.cls i Lib.Math.max.name)
    | 3 => mj_w r4 (.methodLink y.cls i Lib.Math.min.name)
    | 4 => mj_w r4 (.methodLink y.cls i arraycopyName)
    | _ => false)
  | .invokespecial i => decide (decode cc pc = .ok (.invokespecial i, 3)) && (match r3 with
    | 5 => mj_w r4 (.methodLink y.cls i Lib.objectInit)
    | _ => false)
  | _ => false
theorem mj_sim_prim {ins : Instr} {r3 r4 : Nat} (C : mj_Ctx p s m args meth c y cc nL B b D dA) (ho : mj_okP y cc pc ins r3 r4 = true) {st' : List Value} {h' : mj_H} (hs : mj_prim r3 st h = some (st', h')) (hr : mj_Rel B b D dA s nL n0 s0 loc h ls H locs cells slots) (hRf : 1 ≤ R.frames) (hRl : 100 ≤ R.locals) (hcl : h'.length ≤ n0 + R.cells) (hsl : mj_sl h' ≤ s0 + R.slots)
    (k : ∀ (ls' : Array Slot) (H' : Heap) (locs' : List Loc) (cells' slots' : Nat), mj_Rel B b D dA s nL n0 s0 loc h' ls' H' locs' cells' slots' → W p l e R s m args below meth c H' locs' cells' slots' Q (F0 m (pc + 3) ls' (st'.map (mj_rv B b)))) :
    W p l e R s m args below meth c H locs cells slots Q (F0 m pc ls (st.map (mj_rv B b))) := by
  obtain ⟨hx, hb, hml, hown, hts, hK, hB, hbB, hlk, hin⟩ := C
  have hw : ∀ {w : Jvm.Cond}, mj_inw w = true → w.before args s = true := fun h => hts _ (mj_inw_of h).1 (mj_inw_of h).2
  have hm := mj_w_math
  have hcp := mj_w_copy
  have hob := mj_w_obj
  simp only [Bool.and_eq_true] at hm hcp hob
  obtain ⟨⟨⟨⟨m1, m2⟩, m3⟩, m4⟩, m5⟩ := hm
  obtain ⟨⟨c1, c2⟩, c3⟩ := hcp
  obtain ⟨o1, o2⟩ := hob
  have hsz : c.maxLocals = ls.size := by rw [hml, hr.2.1.1]
  have hcc : cells ≤ R.cells := by
    have h1 := hr.2.2.2.1
    have h2 := (mj_prim_mono hs).1
    omega
  have hss : slots ≤ R.slots := by
    have h1 := hr.2.2.2.2
    have h2 := (mj_prim_mono hs).2
    omega
  unfold mj_prim at hs
  split at hs
  · split at hs
    · split at hs
      · rename_i hc0
        cases hs
        cases ins <;> simp only [mj_okP, Bool.and_eq_true, decide_eq_true_eq] at ho <;> (try exact absurd ho Bool.false_ne_true) <;> (try exact absurd ho.2 Bool.false_ne_true)
        exact va_mmax hx hb hsz hown (hts _ (mj_w_of ho.2).1 (mj_w_of ho.2).2) (hw m1) (hw m3) (hw m4) hRf (by rw [mj_cat_map]; omega) hcc hss ho.1 (k _ _ _ _ _ hr)
      · cases hs
    · cases hs
  · split at hs
    · split at hs
      · rename_i hc0
        cases hs
        cases ins <;> simp only [mj_okP, Bool.and_eq_true, decide_eq_true_eq] at ho <;> (try exact absurd ho Bool.false_ne_true) <;> (try exact absurd ho.2 Bool.false_ne_true)
        exact va_mmin hx hb hsz hown (hts _ (mj_w_of ho.2).1 (mj_w_of ho.2).2) (hw m2) (hw m3) (hw m5) hRf (by rw [mj_cat_map]; omega) hcc hss ho.1 (k _ _ _ _ _ hr)
      · cases hs
    · cases hs
  · split at hs
    · rename_i n dp a1 sp a0 st0
      split at hs
      · rename_i t0 n0' f he0
        split at hs
        · rename_i t1 n1 g he1
          split at hs
          · rename_i hcond
            obtain ⟨hc0, ht, ht01, hsp, hdp, hn, h4, h5, hall⟩ := hcond
            cases hs
            subst ht
            unfold mj_cpok at hall
            cases ins <;> simp only [mj_okP, Bool.and_eq_true, decide_eq_true_eq] at ho <;> (try exact absurd ho Bool.false_ne_true) <;> (try exact absurd ho.2 Bool.false_ne_true)
            have ht6 : t0 ≤ 6 := by rcases ht01 with rfl | rfl <;> decide
            have htn : t0 ≠ 100 := by rcases ht01 with rfl | rfl <;> decide
            have e0 := ((hr.1.2.2 _ _ he0).2 htn).2
            have e1 := ((hr.1.2.2 _ _ he1).2 htn).2
            have ha0 := hr.ne0 he1 (fun L xs h => by cases h; exact htn rfl)
            obtain ⟨-, k0, hk0, cm0, hkk0⟩ := (hK.2 t0 _ (mj_tys_at dA ht6)).1 n0' (fun j => mj_rv B b (f j))
            obtain ⟨-, k1, hk1, cm1, hkk1⟩ := (hK.2 t0 _ (mj_tys_at dA ht6)).1 n1 (fun j => mj_rv B b (g j))
            have nn : ∀ z : Int32, 0 ≤ z → z.toInt = (z.toNatClampNeg : Int) := by
              intro z hz
              have hz0 : (0 : Int) ≤ z.toInt := by simpa using Int32.le_iff_toInt_le.mp hz
              show z.toInt = ((z.toInt.toNat : Nat) : Int)
              omega
            intro T hT X
            obtain ⟨vm', X', step⟩ := X.arraycopy hx hown (hts _ (mj_w_of ho.2).1 (mj_w_of ho.2).2) (hw c1) (hw c2) (hw c3) (src := mj_ad B b a0) (dst := mj_ad B b a1) (srcPos := sp) (destPos := dp) (n := n) (by rw [hT]; exact e0) (by rw [hT]; exact e1)
              (fun _ h => by cases h) (fun _ h => by cases h) (fun h => by cases h) (fun h => by cases h) hk0 hk1 hkk0 hkk1 (by simp) (mj_not_lt hsp) (mj_not_lt hdp) (mj_not_lt hn)
              (by rw [nn sp hsp, nn n hn, arrV_size]; omega)
              (by rw [nn dp hdp, nn n hn, arrV_size]; omega)
              (fun vm₁ _ i hi => by
                have e : (arrV (dA t0) n0' (fun j => mj_rv B b (f j))).slots.getD (sp.toNatClampNeg + i) .null = mj_rv B b (f (sp.toNatClampNeg + i)) := by
                  rw [Array.getD_eq_getD_getElem?, arrV_read _ _ (by omega)]
                  rfl
                have h9 := List.all_eq_true.mp hall i (List.mem_range.mpr hi)
                rw [e]
                rcases ht01 with rfl | rfl
                · simp only [mj_isint] at h9
                  split at h9
                  · rename_i z hz
                    rw [hz]
                    exact ⟨rfl, trivial⟩
                  · cases h9
                · simp only [mj_islong] at h9
                  split at h9
                  · rename_i z hz
                    rw [hz]
                    exact ⟨rfl, trivial⟩
                  · cases h9)
              (g := F0 m pc ls (.int n :: .int dp :: .ref (mj_ad B b a1) :: .int sp :: .ref (mj_ad B b a0) :: st'.map (mj_rv B b))) rfl (by rw [hsz]) (rest := st'.map (mj_rv B b)) rfl (by rw [hb]; exact ho.1) hRf (by
                have h8 : nativeFrameWords "java/lang/System" "arraycopy" 5 ≤ 40 := by decide +kernel
                rw [mj_cat_map]
                show 2 * 0 + _ + _ ≤ _
                omega)
            have ec : copied (arrV (dA t0) n0' (fun j => mj_rv B b (f j))) (arrV (dA t0) n1 (fun j => mj_rv B b (g j))) sp dp n = arrV (dA t0) n1 (fun j => mj_rv B b (va_cpy f g sp.toNatClampNeg dp.toNatClampNeg n.toNatClampNeg j)) := va_copied (mj_rv B b) (dA t0) (dA t0) f g h4
            rw [ec] at X' step
            have hlt : mj_ad B b a1 < H.size := (Array.getElem?_eq_some_iff.mp e1).1
            generalize hcell : arrV (dA t0) n1 (fun j => mj_rv B b (va_cpy f g sp.toNatClampNeg dp.toNatClampNeg n.toNatClampNeg j)) = cel at X' step
            have hheap : ((T.setVm vm').setCell (mj_ad B b a1) cel).heap = H.setIfInBounds (mj_ad B b a1) cel := by rw [← hT]; rfl
            have oq : ∀ q : Nat, q ≠ mj_ad B b a1 → (H.setIfInBounds (mj_ad B b a1) cel)[q]? = H[q]? := fun q hq => by simp [Array.getElem?_setIfInBounds, Ne.symm hq]
            have hz : (H.setIfInBounds (mj_ad B b a1) cel).size = H.size := by simp
            have hat : mj_at B b D dA s (mj_ad B b a1) (.inl (t0, n1, va_cpy f g sp.toNatClampNeg dp.toNatClampNeg n.toNatClampNeg)) (H.setIfInBounds (mj_ad B b a1) cel) := ⟨fun h => absurd h htn, fun _ => ⟨ht6, by rw [hcell]; simp [Array.getElem?_setIfInBounds, hlt]⟩⟩
            have hrel := hr.putE (k := 0) hbB ha0 he1 (e1 := .inl (t0, n1, va_cpy f g sp.toNatClampNeg dp.toNatClampNeg n.toNatClampNeg)) rfl hat hz oq
            obtain ⟨t, a1', b1⟩ := k _ _ _ _ _ ⟨hrel.1, hrel.2.1, ⟨hrel.2.2.1.1, hrel.2.2.1.2.1, fun q hq => by
              rcases List.mem_append.mp hq with h | h
              · exact hr.2.2.1.2.2 q h
              · obtain ⟨z, -, hz⟩ := List.mem_map.mp h
                rw [← hz]
                exact mj_ad_ge ha0⟩, hrel.2.2.2⟩ _ hheap X'
            exact ⟨t, step t a1', b1⟩
          · cases hs
        · cases hs
      · cases hs
    · cases hs
  · split at hs
    · split at hs
      · rename_i hc0
        cases hs
        cases ins <;> simp only [mj_okP, Bool.and_eq_true, decide_eq_true_eq] at ho <;> (try exact absurd ho Bool.false_ne_true) <;> (try exact absurd ho.2 Bool.false_ne_true)
        exact W.objInit hx hb hown (hts _ (mj_w_of ho.2).1 (mj_w_of ho.2).2) (hw o1) (hw o2) rfl (by rw [hsz]) rfl ho.1 hRf (by rw [mj_cat_map]; show 2 * 0 + _ + _ ≤ _; omega) (k _ _ _ _ _ hr)
      · cases hs
    · cases hs
  · cases hs
end MJP
end
section
/-! The machine does what a run of the small machine says: one contract a run. -/
def mj_four (hs : List (Nat × Nat × Nat × Nat × Nat × Nat × Nat)) : List (Nat × Nat × Nat × Nat) := hs.map fun q => (q.1, q.2.1, q.2.2.1, q.2.2.2.1)
def mj_code (M : mj_M) : Jvm.Cond := match M.2.2.2.2.2.1 with
  | [] => .code M.1 M.2.1 M.2.2.1 M.2.2.2.1
  | hs => .codeWith M.1 M.2.1 M.2.2.1 M.2.2.2.1 (mj_four hs)
def mj_hok (y : MethodName) (cc : ByteArray) (q : Nat × Nat × Nat × Nat × Nat × Nat × Nat) : Bool := match q with
  | (_, _, hp, ct, x, k, nx) => !decide (ct = 0) && mj_inw (.classLink y.cls ct (mj_exc x)) && decide (x < 5) && ((decide (decode cc hp = .ok (.astore k, 2)) && decide (nx = hp + 2)) || (match k with
    | 0 => decide (decode cc hp = .ok (.astore_n 0, 1)) && decide (nx = hp + 1)
    | 1 => decide (decode cc hp = .ok (.astore_n 1, 1)) && decide (nx = hp + 1)
    | 2 => decide (decode cc hp = .ok (.astore_n 2, 1)) && decide (nx = hp + 1)
    | 3 => decide (decode cc hp = .ok (.astore_n 3, 1)) && decide (nx = hp + 1)
    | _ => false))
def mj_np (y : MethodName) : Option Nat := (parseMethodDescriptor y.desc).map fun d => d.parameters.length
/-- a method's own words -/
def mj_okM (M : mj_M) : Bool := match M with
  | (y, cc, n, ret, _, hs, kd, i1, i2, i3, i4) => plainName y.cls && mj_w i1 (mj_code M) && mj_w i2 (.initialized y.cls) && decide (n ≤ 40) && decide (y.cls ≠ "java/lang/invoke/MethodHandle") && decide (y.cls ≠ "java/lang/invoke/VarHandle") && hs.all (mj_hok y cc) && (match kd with
    | 0 => mj_w i3 (.static y) && decide (y.name ≠ "<init>")
    | 1 => mj_w i3 (.instanceMethod y) && mj_w i4 (.selects y.cls y y) && hs.isEmpty
    | _ => mj_w i3 (.instanceMethod y) && decide (y.name = "<init>") && decide (ret = none) && hs.isEmpty)
def mj_lk (own : String) (i : Nat) (y : MethodName) (r3 r4 : Nat) : Bool := match r3 with
  | 0 => mj_w r4 (.methodLink own i y)
  | _ => mj_w r4 (.methodLinkNest own i y "PolyRegisters")
/-- what a call was resolved to -/
def mj_okC (P : List mj_M) (y : MethodName) (cc : ByteArray) (pc : Nat) (ins : Instr) (r1 r2 r3 r4 r5 : Nat) : Bool := match P[r1]? with
  | none => false
  | some (y', _, _, _, _, hs, kd, _) => mj_lk y.cls (match ins with | .invokestatic i => i | .invokevirtual i => i | .invokespecial i => i | _ => 0) y' r3 r4 && (match ins with
    | .invokestatic i => decide (decode cc pc = .ok (.invokestatic i, 3)) && decide (kd = 0) && decide (mj_np y' = some r2) && (hs.isEmpty || decide (r3 = 0)) && decide (y'.cls = y'.cls)
    | .invokevirtual i => decide (decode cc pc = .ok (.invokevirtual i, 3)) && decide (kd = 1) && (match r2 with
      | 0 => false
      | n + 1 => decide (mj_np y' = some n)) && (match mj_cl[r5]? with
      | some q => decide (q.1 = y'.cls)
      | none => false)
    | .invokespecial i => decide (decode cc pc = .ok (.invokespecial i, 3)) && decide (kd = 2) && (match r2 with
      | 0 => false
      | n + 1 => decide (mj_np y' = some n))
    | _ => false)
def mj_okT (y : MethodName) (cc : ByteArray) (pc : Nat) (ins : Instr) (r1 r2 r4 : Nat) : Bool := match ins with
  | .new ik => decide (decode cc pc = .ok (.new ik, 3)) && decide (decode cc (pc + 3) = .ok (.dup, 1)) && decide (decode cc (pc + 4) = .ok (.invokespecial r2, 3)) && decide (decode cc (pc + 7) = .ok (.athrow, 1)) && mj_w r4 (.classLink y.cls ik (mj_exc r1)) && decide (r1 < 5)
  | _ => false
/-- the words of a throw in a class, by the constructor's number -/
def mj_thr (own : String) (ic i : Nat) : Bool := Bundle.fit (mj_exc i) && mj_inw (.initialized (mj_exc i)) && vx_ot (.initialized (mj_exc i)) && (vx_at0 own ic (mj_exc i) ["java/lang/RuntimeException", "java/lang/Exception"]).all fun w => mj_inw w && vx_ot w
def mj_okX (P : List mj_M) (thr : List (String × Nat × Nat)) (y : MethodName) (cc : ByteArray) (pc : Nat) (I : mj_I) : Bool := match I with
  | (ins, r1, r2, r3, r4, r5) => match mj_kind ins r3 with
    | 0 => mj_ok y cc pc I
    | 1 => decide (decode cc pc = .ok (ins, 1))
    | 2 => mj_okT y cc pc ins r1 r2 r4 && decide ((y.cls, r2, r1) ∈ thr)
    | 3 => mj_okC P y cc pc ins r1 r2 r3 r4 r5
    | _ => mj_okP y cc pc ins r3 r4
def mj_Inv (B b : Nat) (D : va_G) (dA : Nat → ClassId) (h : mj_H) (U : State) : Prop :=
  mj_HR B b D dA U h U.heap ∧ (∀ w ∈ lw_tbl, mj_mv w = true → w.before #[] U = true) ∧ va_K D mj_cl (mj_tys dA) U ∧ B ≤ U.heap.size ∧ b < B ∧ vx_Zq Bundle.tN "UNASSIGNED_STACK" Bundle.steD (fun q => B ≤ q) U U.heap ∧ vx_Zq Bundle.tN "SUPPRESSED_SENTINEL" Bundle.listD (fun q => B ≤ q) U U.heap ∧ ∀ i j, i < 5 → j < 5 → i ≠ j → va_Nc (mj_exc i) (mj_exc j) U
def mj_Pc (B b : Nat) (D : va_G) (dA : Nat → ClassId) (h : mj_H) (as : List Value) : Array Value → State → Prop := fun a U => a = (as.map (mj_rv B b)).toArray ∧ mj_Inv B b D dA h U
def mj_Qc (B b : Nat) (D : va_G) (dA : Nat → ClassId) (r : mj_R) : Array Value → State → Outcome → State → Prop := fun _ st oc t => ∃ v, r.1 = .inl v ∧ oc = .returned (v.map (mj_rv B b)) ∧ mj_HR B b D dA t r.2 t.heap ∧ va_F (fun q => B ≤ q) st t
def mj_Xc (B b : Nat) (D : va_G) (dA : Nat → ClassId) (r : mj_R) : String → State → State → Prop := fun E st t => ∃ i, r.1 = .inr i ∧ i < 5 ∧ E = mj_exc i ∧ mj_HR B b D dA t r.2 t.heap ∧ va_F (fun q => B ≤ q) st t
def mj_rm (d mc ms : Nat) : Room := { frames := d + 8, cells := mc, slots := ms, locals := 140 + d * 64 }
def mj_Spec (l : Launch) (B b : Nat) (D : va_G) (dA : Nat → ClassId) (d : Nat) (M : mj_M) (as : List Value) (h : mj_H) (r : mj_R) : Prop :=
  vx_Met l M.1 [mj_code M] (mj_rm d (r.2.length - h.length) (mj_sl r.2 - mj_sl h)) (mj_Pc B b D dA h as) (mj_Qc B b D dA r) (mj_Xc B b D dA r) (r.2.length - h.length) (mj_sl r.2 - mj_sl h) (fun q => B ≤ q)
theorem mj_Inv.warm {B b : Nat} {D : va_G} {dA : Nat → ClassId} {h : mj_H} {U U' : State} (hW : U.WarmedH U'.vm) (hh : U'.heap = U.heap) (hI : mj_Inv B b D dA h U) : mj_Inv B b D dA h U' := by
  obtain ⟨h1, h2, h3, h4, h5, h6, h7, h8⟩ := hI
  refine ⟨by rw [hh]; exact h1.moved hW.alike, fun w hw hm => mj_move hm hW (h2 w hw hm), va_K.moved hW.alike h3, by rw [hh]; exact h4, h5, by rw [hh]; exact vx_Zq.moved hW.alike h6, by rw [hh]; exact vx_Zq.moved hW.alike h7, fun i j hi hj hij => (h8 i j hi hj hij).moved hW.alike⟩
theorem mj_Inv.at {B b : Nat} {D : va_G} {dA : Nat → ClassId} {h0 h : mj_H} {s U : State} {H : Heap} {locs : List Loc} (hI : mj_Inv B b D dA h0 s) (hR : mj_HR B b D dA s h H) (hS : va_S (fun q => B ≤ q) s.heap H locs) (hU : U.heap = H) (hW : s.WarmedH U.vm) : mj_Inv B b D dA h U := by
  obtain ⟨h1, h2, h3, h4, h5, h6, h7, h8⟩ := hI
  subst hU
  exact ⟨hR.moved hW.alike, fun w hw hm => mj_move hm hW (h2 w hw hm), va_K.moved hW.alike h3, Nat.le_trans h4 hS.1, h5, vx_Zq.moved hW.alike (h6.kept hS.2.1), vx_Zq.moved hW.alike (h7.kept hS.2.1), fun i j hi hj hij => (h8 i j hi hj hij).moved hW.alike⟩
theorem mj_blind {B b : Nat} {D : va_G} {dA : Nat → ClassId} {h : mj_H} {as : List Value} : FrameBlind (mj_Pc B b D dA h as) := fun a U g mk hP => ⟨hP.1, hP.2.warm (U' := U.calling g mk a) (State.WarmedH.refl U) rfl⟩
theorem mj_loc0_len (f : Value → Value) (hf : ∀ v, (f v).category = v.category) : ∀ (as : List Value) (n : Nat), (lg_sl (as.map f)).length ≤ (mj_loc0 n as).length
  | [], n => by simp [lg_sl]
  | v :: t, n => by
    have h1 := mj_loc0_len f hf t (n - 2)
    have h2 := mj_loc0_len f hf t (n - 1)
    simp only [lg_sl] at h1 h2
    simp only [mj_loc0, lg_sl, List.map_cons, List.flatMap_cons, hf]
    split
    · simp only [List.length_append, List.length_cons, List.length_nil]; omega
    · simp only [List.length_append, List.length_cons, List.length_nil]; omega
theorem mj_loc0_get (f : Value → Value) (hf : ∀ v, (f v).category = v.category) : ∀ (as : List Value) (n o i : Nat) (v : Value), (mj_loc0 n as)[i]? = some (some v) → (o + i, f v) ∈ lv_args o (as.map f)
  | [], n, o, i, v, h => by
    simp only [mj_loc0, List.getElem?_replicate] at h
    split at h
    · cases h
    · cases h
  | w :: t, n, o, i, v, h => by
    simp only [mj_loc0] at h
    simp only [List.map_cons, lv_args, hf]
    split at h
    · rename_i hc
      rw [if_pos hc]
      match i, h with
      | 0, h => cases h; exact List.mem_cons_self
      | 1, h => cases h
      | i + 2, h =>
        have := mj_loc0_get f hf t (n - 2) (o + 2) i v h
        rw [show o + (i + 2) = o + 2 + i by omega]
        exact List.mem_cons_of_mem _ this
    · rename_i hc
      rw [if_neg hc]
      match i, h with
      | 0, h => cases h; exact List.mem_cons_self
      | i + 1, h =>
        have := mj_loc0_get f hf t (n - 1) (o + 1) i v h
        rw [show o + (i + 1) = o + 1 + i by omega]
        exact List.mem_cons_of_mem _ this
theorem mj_entry {B b nL : Nat} {as : List Value} (hl : (mj_loc0 nL as).length = nL) : mj_LR B b (mj_loc0 nL as) ((lg_sl (as.map (mj_rv B b)) ++ List.replicate (nL - (lg_sl (as.map (mj_rv B b))).length) Slot.unset).toArray) nL := by
  have h1 := lv_entry (as.map (mj_rv B b)) (n := nL) (by have := mj_loc0_len (mj_rv B b) (mj_rv_cat B b) as nL; omega)
  refine ⟨h1.1, hl, h1.2.1, fun i v hv => ?_⟩
  have h2 := mj_loc0_get (mj_rv B b) (mj_rv_cat B b) as nL 0 i v hv
  rw [Nat.zero_add] at h2
  exact h1.2.2 _ h2
theorem mj_LR.kill {B b : Nat} {loc : mj_L} {ls ls' : Array Slot} {nL i : Nat} {w : Value} (h : mj_LR B b loc ls nL)
    (h' : lv_has ls' nL ((i, w) :: (mj_lv B b loc).filter (fun q => !(q.1 == i) && !(q.1 + 1 == i && q.2.category == 2)))) : mj_LR B b (mj_kill loc i) ls' nL := by
  refine ⟨h'.1, ?_, h'.2.1, fun j u hu => ?_⟩
  · unfold mj_kill
    rw [List.length_set]
    exact (mj_st1_len loc i _).trans h.2.1
  unfold mj_kill at hu
  by_cases hj : j = i
  · subst hj
    rw [List.getElem?_set] at hu
    simp only [if_true] at hu
    split at hu <;> simp at hu
  · rw [List.getElem?_set_ne (fun e => hj e.symm)] at hu
    rcases mj_st1_get hu with ⟨e1, e2⟩ | ⟨e1, e2, e3⟩
    · exact absurd e1 hj
    · refine h'.2.2 (j, mj_rv B b u) (List.mem_cons_of_mem _ (List.mem_filter.mpr ⟨mj_lv_mem e2, ?_⟩))
      rw [mj_rv_cat]
      simp only [Bool.and_eq_true, Bool.not_eq_true', beq_eq_false_iff_ne, ne_eq, Bool.and_eq_false_iff]
      refine ⟨e1, ?_⟩
      by_cases hq : j + 1 = i
      · exact Or.inr fun z => e3 ⟨hq, z⟩
      · exact Or.inl hq
theorem mj_cast_ok : ((List.range 5).all fun i => mj_inw (.castable (mj_exc i) (mj_exc i))) = true := by decide +kernel
end
section
/-! A call by the contract of its callee; the loop; every run. -/
section MJK
variable {p : Program} {l : Launch} {e : Env} {R : Room} {s : State} {m : MethodId} {args : Array Value} {below : List Frame} {meth : Method} {c : Code} {H : Heap} {locs : List Loc} {cells slots : Nat} {Q : State → Prop}
variable {y : MethodName} {cc : ByteArray} {nL B b n0 s0 : Nat} {D : va_G} {dA : Nat → ClassId} {pc : Nat} {loc : mj_L} {st : List Value} {h : mj_H} {ls : Array Slot}
theorem mj_callrow {r1 : mj_R} {mc1 ms1 : Nat} {st0 rest : List Value} {a9 : Array Value} (hS : va_S (fun q => B ≤ q) s.heap H locs) (hr : vx_Run p l e R s m args below meth c H locs cells slots mc1 ms1 (F0 m pc ls st0) rest (mj_Qc B b D dA r1 a9) (mj_Xc B b D dA r1) (fun q => B ≤ q))
    (k1 : ∀ v, r1.1 = .inl v → ∀ (H1 : Heap) (locs1 : List Loc), mj_HR B b D dA s r1.2 H1 → va_S (fun q => B ≤ q) s.heap H1 locs1 → W p l e R s m args below meth c H1 locs1 (cells + mc1) (slots + ms1) Q (F0 m (pc + 3) ls (v.toList.map (mj_rv B b) ++ rest)))
    (k2 : ∀ i, r1.1 = .inr i → i < 5 → ∀ (H1 : Heap) (locs1 : List Loc) (q : Addr) (ce : Cell), mj_HR B b D dA s r1.2 H1 → va_S (fun q => B ≤ q) s.heap H1 locs1 → H1[q]? = some ce → ce.vm = .none → s.vm.findClass (mj_exc i) = some ce.cls → vx_W p l e R s m args below meth c H1 locs1 (cells + mc1) (slots + ms1) Q (F0 m pc ls rest) q) :
    W p l e R s m args below meth c H locs cells slots Q (F0 m pc ls st0) := by
  intro T hT X
  have hS2 : ∀ (st₀ t T' : State) (L : List Loc), st₀.heap = H → T'.heap = t.heap → (∀ q ∈ L, B ≤ q.base) → va_F (fun q => B ≤ q) st₀ t → va_S (fun q => B ≤ q) s.heap T'.heap (locs ++ L) := by
    intro st₀ t T' L h0 e1 hL hF
    obtain ⟨f1, f2⟩ := hF
    rw [h0] at f1 f2
    refine ⟨by rw [e1]; exact Nat.le_trans hS.1 f1, fun q g1 g2 => by rw [e1, f2 q (Nat.lt_of_lt_of_le g1 hS.1) g2]; exact hS.2.1 q g1 g2, fun q hq => ?_⟩
    rcases List.mem_append.mp hq with h | h
    · exact hS.2.2 q h
    · exact hL q h
  rcases hr T hT X with ⟨v, st₀, t, T', L, h0, X', hL, e1, e2, ⟨v', hv1, hv2, hHR, hF⟩, st⟩ | ⟨q, st₀, t, T', L, E, ce, h0, X', hL, e1, e2, ⟨i, hi1, hi2, hi3, hHR, hF⟩, hce, hcv, hcl, st⟩
  · have hal : t.vm.Alike s.vm := by rw [← e2]; exact X'.warmed.alike.symm
    have hv3 : v = v'.map (mj_rv B b) := Outcome.returned.inj hv2
    subst hv3
    obtain ⟨t2, a1, b1⟩ := k1 v' hv1 T'.heap (locs ++ L) (by rw [e1]; exact hHR.moved hal) (hS2 st₀ t T' L h0 e1 hL hF) T' rfl X'
    refine ⟨t2, st t2 ?_, b1⟩
    cases v' with
    | none => exact a1
    | some w => exact a1
  · have hal : t.vm.Alike s.vm := by rw [← e2]; exact X'.warmed.alike.symm
    subst hi3
    obtain ⟨t2, a1, b1⟩ := k2 i hi1 hi2 T'.heap (locs ++ L) q ce (by rw [e1]; exact hHR.moved hal) (hS2 st₀ t T' L h0 e1 hL hF) (by rw [e1]; exact hce) hcv hcl T' rfl X'
    exact ⟨t2, st.trans a1, b1⟩
theorem mj_mkrun {P : List mj_M} {ins : Instr} {r1 r2 r3 r4 r5 d : Nat} {M' : mj_M} {r' : mj_R} {h0 : mj_H} (C : mj_Ctx p s m args meth c y cc nL B b D dA) (hI : mj_Inv B b D dA h0 s) (hok : mj_okC P y cc pc ins r1 r2 r3 r4 r5 = true) (hP : P[r1]? = some M') (hM : mj_okM M' = true) (hr : mj_Rel B b D dA s nL n0 s0 loc h ls H locs cells slots)
    (h2 : r2 ≤ st.length) (h8 : mj_cat (st.drop r2) ≤ 8) (hrec : mj_recv ins r2 r5 st h = true) (hSp : mj_Spec l B b D dA d M' (st.take r2).reverse h r') (hRf : d + 9 ≤ R.frames) (hRl : 200 + d * 64 ≤ R.locals) (hc : cells + (r'.2.length - h.length) ≤ R.cells) (hs : slots + (mj_sl r'.2 - mj_sl h) ≤ R.slots) :
    ∃ a9, vx_Run p l e R s m args below meth c H locs cells slots (r'.2.length - h.length) (mj_sl r'.2 - mj_sl h) (F0 m pc ls (st.map (mj_rv B b))) ((st.drop r2).map (mj_rv B b)) (mj_Qc B b D dA r' a9) (mj_Xc B b D dA r') (fun q => B ≤ q) := by
  obtain ⟨hx, hb, hml, hown, hts, hK, hB, hbB, hlk, hin⟩ := C
  obtain ⟨y', cc', n', ret', code', hs', kd', i1, i2, i3, i4⟩ := M'
  have hsz : ls.size = nL := hr.2.1.1
  simp only [mj_okM, Bool.and_eq_true, decide_eq_true_eq] at hM
  obtain ⟨⟨⟨⟨⟨⟨⟨hpl, hw1⟩, hw2⟩, hn⟩, hy1⟩, hy2⟩, hhs⟩, hkd⟩ := hM
  simp only [mj_okC, hP, Bool.and_eq_true] at hok
  obtain ⟨hlk2, hok⟩ := hok
  have hcode : (mj_code (y', cc', n', ret', code', hs', kd', i1, i2, i3, i4)).before args s = true := hts _ (mj_w_of hw1).1 (mj_w_of hw1).2
  have hws : ∀ w ∈ [mj_code (y', cc', n', ret', code', hs', kd', i1, i2, i3, i4)], ∀ (a' : Array Value) (U : State), s.WarmedH U.vm → w.before a' U = true := by
    intro w hw a' U hW
    rw [List.mem_singleton.mp hw]
    exact mj_move (mj_w_of hw1).2 hW hcode
  have hini : (Jvm.Cond.initialized y'.cls).before args s = true := hts _ (mj_w_of hw2).1 (mj_w_of hw2).2
  have hPc : ∀ U : State, U.heap = H → s.WarmedH U.vm → mj_Pc B b D dA h (st.take r2).reverse (((st.take r2).reverse.map (mj_rv B b)).toArray) U := fun U hU hW => ⟨rfl, hI.at hr.1 hr.2.2.1 hU hW⟩
  have hroom : (mj_rm d (r'.2.length - h.length) (mj_sl r'.2 - mj_sl h)).frames + 1 ≤ R.frames ∧ 8 + (n' + 11) + (mj_rm d (r'.2.length - h.length) (mj_sl r'.2 - mj_sl h)).locals ≤ R.locals := by
    simp only [mj_rm]
    omega
  have hW8 : 2 * (F0 m pc ls (st.map (mj_rv B b))).monitorRoom + (((st.drop r2).map (mj_rv B b)).map fun v => v.category).sum ≤ 8 := by
    rw [mj_cat_map]
    show 2 * 0 + _ ≤ 8
    omega
  have hS : CallFix p m c cc nL s args [] y.cls := ⟨hx, hb, hml, hown, fun w h => nomatch h⟩
  cases ins <;> simp only [] at hok hlk2 <;> (try exact absurd hok Bool.false_ne_true)
  case invokespecial i =>
    simp only [Bool.and_eq_true, decide_eq_true_eq] at hok
    obtain ⟨⟨hd, hk0⟩, hnp⟩ := hok
    subst hk0
    simp only [Bool.and_eq_true, decide_eq_true_eq] at hkd
    obtain ⟨⟨⟨hw3, hyi⟩, hret⟩, hse⟩ := hkd
    have hs0 : hs' = [] := List.isEmpty_iff.mp hse
    subst hs0
    subst hret
    cases r2 with
    | zero => exact absurd hnp Bool.false_ne_true
    | succ n =>
      have hnp := of_decide_eq_true hnp
      have hlen : ∀ sig, parseMethodDescriptor y'.desc = some sig → n = sig.parameters.length := fun sig hsig => by
        unfold mj_np at hnp
        rw [hsig] at hnp
        exact (Option.some.inj hnp).symm
      simp only [mj_recv, Nat.add_sub_cancel] at hrec
      split at hrec
      · rename_i hz; cases hz
      · rename_i a tl hdr hne0
        have hta : st.take (n + 1) = st.take n ++ [.ref a] := by
          rw [List.take_add_one]
          have : st[n]? = some (.ref a) := by
            have h9 := congrArg (fun z : List Value => z[0]?) hdr
            simp only [List.getElem?_drop, List.getElem?_cons_zero, Nat.add_zero] at h9
            exact h9
          rw [this]; rfl
        have htd : st.drop (n + 1) = tl := by
          have h9 := congrArg (fun z : List Value => z.drop 1) hdr
          simpa [List.drop_drop] using h9
        have has : ((st.take (n + 1)).reverse.map (mj_rv B b)) = .ref (mj_ad B b a) :: ((st.take n).reverse.map (mj_rv B b)) := by
          rw [hta]; simp [mj_rv]
        have hstk : st.map (mj_rv B b) = ((st.take n).reverse.map (mj_rv B b)).reverse ++ .ref (mj_ad B b a) :: ((st.drop (n + 1)).map (mj_rv B b)) := by
          rw [htd]
          have h9 : st = st.take n ++ st.drop n := (List.take_append_drop n st).symm
          rw [hdr] at h9
          conv => lhs; rw [h9]
          simp [mj_rv]
        rw [has] at hPc
        have hnl : ((st.take n).reverse.map (mj_rv B b)).length = n := by simp; omega
        cases r3 with
        | zero =>
          exact ⟨_, vx_runI hS hSp ⟨⟨rfl, rfl, hroom.1, hroom.2, hws, List.mem_singleton.mpr rfl, hcode, hini, ⟨hy1, hy2⟩, hlen, hts _ (mj_w_of hlk2).1 (mj_w_of hlk2).2⟩, hyi, hts _ (mj_w_of hw3).1 (mj_w_of hw3).2⟩ ⟨mj_blind, hPc⟩ rfl hnl hsz hstk hW8 hd ⟨hc, hs⟩⟩
        | succ z =>
          exact ⟨_, vx_runIN hS hSp ⟨⟨⟨rfl, rfl, hroom.1, hroom.2, hws, List.mem_singleton.mpr rfl⟩, hcode, hini, ⟨hy1, hy2⟩, hlen, hts _ (mj_w_of hlk2).1 (mj_w_of hlk2).2⟩, hyi, hts _ (mj_w_of hw3).1 (mj_w_of hw3).2⟩ ⟨mj_blind, hPc⟩ rfl hnl hsz hstk hW8 hd ⟨hc, hs⟩⟩
      · cases hrec
  case invokestatic i =>
    simp only [Bool.and_eq_true, decide_eq_true_eq, Bool.or_eq_true] at hok
    obtain ⟨⟨⟨⟨hd, hk0⟩, hnp⟩, hse⟩, -⟩ := hok
    subst hk0
    simp only [Bool.and_eq_true, decide_eq_true_eq] at hkd
    obtain ⟨hw3, -⟩ := hkd
    have hlen : ∀ sig, parseMethodDescriptor y'.desc = some sig → r2 = sig.parameters.length := fun sig hsig => by
      unfold mj_np at hnp
      rw [hsig] at hnp
      exact (Option.some.inj hnp).symm
    have hstk : st.map (mj_rv B b) = ((st.take r2).reverse.map (mj_rv B b)).reverse ++ ((st.drop r2).map (mj_rv B b)) := by
      rw [← List.map_reverse, List.reverse_reverse, ← List.map_append, List.take_append_drop]
    have hnl : ((st.take r2).reverse.map (mj_rv B b)).length = r2 := by simp; omega
    have hst : (Jvm.Cond.static y').before args s = true := hts _ (mj_w_of hw3).1 (mj_w_of hw3).2
    cases hs' with
    | nil =>
      cases r3 with
      | zero =>
        exact ⟨_, vx_runS hS hSp ⟨⟨rfl, rfl, hroom.1, hroom.2, hws, List.mem_singleton.mpr rfl, hcode, hini, ⟨hy1, hy2⟩, hlen, hts _ (mj_w_of hlk2).1 (mj_w_of hlk2).2⟩, hst⟩ ⟨mj_blind, hPc⟩ rfl hnl hsz hstk hW8 hd ⟨hc, hs⟩⟩
      | succ z =>
        exact ⟨_, vx_runSN hS hSp ⟨⟨⟨rfl, rfl, hroom.1, hroom.2, hws, List.mem_singleton.mpr rfl⟩, hcode, hini, ⟨hy1, hy2⟩, hlen, hts _ (mj_w_of hlk2).1 (mj_w_of hlk2).2⟩, hst, trivial⟩ ⟨mj_blind, hPc⟩ rfl hnl hsz hstk hW8 hd ⟨hc, hs⟩⟩
    | cons q0 t0 =>
      rcases hse with hse | hse
      · cases hse
      · subst hse
        exact ⟨_, vx_runSX (hh := mj_four (q0 :: t0)) hS hSp ⟨⟨rfl, rfl, hroom.1, hroom.2, hws, List.mem_singleton.mpr rfl⟩, hcode, hini, ⟨hy1, hy2⟩, hlen, hts _ (mj_w_of hlk2).1 (mj_w_of hlk2).2, hst⟩ ⟨mj_blind, hPc⟩ rfl hnl hsz hstk hW8 hd ⟨hc, hs⟩⟩
  case invokevirtual i =>
    simp only [Bool.and_eq_true, decide_eq_true_eq] at hok
    obtain ⟨⟨⟨hd, hk0⟩, hnp⟩, hcl⟩ := hok
    subst hk0
    simp only [Bool.and_eq_true, decide_eq_true_eq] at hkd
    obtain ⟨⟨hw3, hw4⟩, hse⟩ := hkd
    have hs0 : hs' = [] := List.isEmpty_iff.mp hse
    subst hs0
    cases r2 with
    | zero => exact absurd hnp Bool.false_ne_true
    | succ n =>
      have hnp := of_decide_eq_true hnp
      have hlen : ∀ sig, parseMethodDescriptor y'.desc = some sig → n = sig.parameters.length := fun sig hsig => by
        unfold mj_np at hnp
        rw [hsig] at hnp
        exact (Option.some.inj hnp).symm
      simp only [mj_recv, Nat.add_sub_cancel] at hrec
      split at hrec
      · rename_i hz; cases hz
      · rename_i a tl hdr hne0
        split at hrec
        · rename_i ci fs hea
          have hci := of_decide_eq_true hrec
          subst hci
          split at hcl
          · rename_i q hq
            have hcl := of_decide_eq_true hcl
            have hta : st.take (n + 1) = st.take n ++ [.ref a] := by
              rw [List.take_add_one]
              have : st[n]? = some (.ref a) := by
                have h9 := congrArg (fun z : List Value => z[0]?) hdr
                simp only [List.getElem?_drop, List.getElem?_cons_zero, Nat.add_zero] at h9
                exact h9
              rw [this]; rfl
            have htd : st.drop (n + 1) = tl := by
              have h9 := congrArg (fun z : List Value => z.drop 1) hdr
              simpa [List.drop_drop] using h9
            have has : ((st.take (n + 1)).reverse.map (mj_rv B b)) = .ref (mj_ad B b a) :: ((st.take n).reverse.map (mj_rv B b)) := by
              rw [hta]; simp [mj_rv]
            have hstk : st.map (mj_rv B b) = ((st.take n).reverse.map (mj_rv B b)).reverse ++ .ref (mj_ad B b a) :: ((st.drop (n + 1)).map (mj_rv B b)) := by
              rw [htd]
              have h9 : st = st.take n ++ st.drop n := (List.take_append_drop n st).symm
              rw [hdr] at h9
              conv => lhs; rw [h9]
              simp [mj_rv]
            rw [has] at hPc
            have hnl : ((st.take n).reverse.map (mj_rv B b)).length = n := by simp; omega
            have hcell : ∃ cellB : Cell, H[mj_ad B b a]? = some cellB ∧ cellB.vm.isStatics = false ∧ s.vm.findClass y'.cls = some cellB.cls := by
              obtain ⟨r, g1, g2, cell, g3, g4, g5, -⟩ := hr.1.2.2 _ _ hea (mj_cl_ne hq)
              cases g1.symm.trans hq
              exact ⟨cell, g3, by rw [g5]; rfl, by rw [g4, ← hcl]; exact (hK.1 ci _ hq).2.1⟩
            cases r3 with
            | zero =>
              exact ⟨_, vx_runV (C := y'.cls) hS hSp ⟨⟨rfl, rfl, hroom.1, hroom.2, hws, List.mem_singleton.mpr rfl, hcode, hini, ⟨hy1, hy2⟩, hlen, hts _ (mj_w_of hlk2).1 (mj_w_of hlk2).2⟩, hts _ (mj_w_of hw3).1 (mj_w_of hw3).2, hts _ (mj_w_of hw4).1 (mj_w_of hw4).2⟩ ⟨mj_blind, hcell, hPc⟩ rfl hnl hsz hstk hW8 hd ⟨hc, hs⟩⟩
            | succ z =>
              exact ⟨_, vx_runVN (C := y'.cls) hS hSp ⟨⟨⟨rfl, rfl, hroom.1, hroom.2, hws, List.mem_singleton.mpr rfl⟩, hcode, hini, ⟨hy1, hy2⟩, hlen, hts _ (mj_w_of hlk2).1 (mj_w_of hlk2).2⟩, hts _ (mj_w_of hw3).1 (mj_w_of hw3).2, hts _ (mj_w_of hw4).1 (mj_w_of hw4).2⟩ ⟨mj_blind, hcell, hPc⟩ rfl hnl hsz hstk hW8 hd ⟨hc, hs⟩⟩
          · cases hcl
        · cases hrec
      · cases hrec
end MJK
end
section
/-! The loop, and every run of a table that the kernel has checked. -/
def mj_okA (P : List mj_M) (thr : List (String × Nat × Nat)) (M : mj_M) : Prop := mj_okM M = true ∧ ∀ (pc : Nat) (I : mj_I), M.2.2.2.2.1 pc = some I → mj_okX P thr M.1 M.2.1 pc I = true
def mj_okP2 (P : List mj_M) (thr : List (String × Nat × Nat)) : Prop := (∀ q ∈ thr, mj_thr q.1 q.2.1 q.2.2 = true) ∧ ∀ (j : Nat) (M : mj_M), P[j]? = some M → mj_okA P thr M
section MJW
variable {p : Program} {l : Launch} {e : Env} {R : Room} {s : State} {m : MethodId} {args : Array Value} {below : List Frame} {meth : Method} {c : Code}
variable {B b : Nat} {D : va_G} {dA : Nat → ClassId}
theorem mj_find_of {cc : ByteArray} {y : MethodName} : ∀ {hs : List (Nat × Nat × Nat × Nat × Nat × Nat × Nat)} {pc i k nx : Nat}, mj_find hs pc i = some (k, nx) → hs.all (mj_hok y cc) = true → ∃ pre a b2 hp ct suf, hs = pre ++ (a, b2, hp, ct, i, k, nx) :: suf ∧ a ≤ pc ∧ pc < b2 ∧ mj_hok y cc (a, b2, hp, ct, i, k, nx) = true ∧ ∀ z ∈ pre, mj_hok y cc z = true ∧ (¬ (z.1 ≤ pc ∧ pc < z.2.1) ∨ z.2.2.2.2.1 ≠ i)
  | [], _, _, _, _, h, _ => by cases h
  | (a, b2, hp, ct, x, k0, n0) :: t, pc, i, k, nx, h, ho => by
    simp only [List.all_cons, Bool.and_eq_true] at ho
    simp only [mj_find] at h
    split at h
    · rename_i hc
      obtain ⟨h1, h2, rfl⟩ := hc
      cases h
      exact ⟨[], a, b2, hp, ct, t, rfl, h1, h2, ho.1, fun z hz => nomatch hz⟩
    · rename_i hc
      obtain ⟨pre, a', b', hp', ct', suf, h1, h2, h3, h4, h5⟩ := mj_find_of h ho.2
      refine ⟨(a, b2, hp, ct, x, k0, n0) :: pre, a', b', hp', ct', suf, by rw [h1]; rfl, h2, h3, h4, fun z hz => ?_⟩
      rcases List.mem_cons.mp hz with rfl | hz
      · refine ⟨ho.1, ?_⟩
        by_cases hq : a ≤ pc ∧ pc < b2
        · exact Or.inr fun e => hc ⟨hq.1, hq.2, e⟩
        · exact Or.inl hq
      · exact h5 z hz
theorem mj_walk {P : List mj_M} {thr : List (String × Nat × Nat)} (hP : mj_okP2 P thr) (hl : l.stackTraces = false) {Fu d : Nat}
    (ih : ∀ (j : Nat) (as : List Value) (h : mj_H) (r : mj_R), mj_run P Fu d j as h = some r → ∀ M, P[j]? = some M → ∀ (B b : Nat) (D : va_G) (dA : Nat → ClassId), mj_Spec l B b D dA d M as h r)
    {M : mj_M} (hH : M.2.2.2.2.2.1.all (mj_hok M.1 M.2.1) = true) (hM : ∀ (pc : Nat) (I : mj_I), M.2.2.2.2.1 pc = some I → mj_okX P thr M.1 M.2.1 pc I = true) {h0 : mj_H} (C : mj_Ctx p s m args meth c M.1 M.2.1 M.2.2.1 B b D dA) (hI : mj_Inv B b D dA h0 s) (hret : meth.sig.returnType = M.2.2.2.1) (htab : c.exceptionTable.toList = tableOf (mj_four M.2.2.2.2.2.1)) {mc ms : Nat} :
    ∀ (F pc : Nat) (loc : mj_L) (st : List Value) (h : mj_H) (r : mj_R) (H : Heap) (ls : Array Slot) (locs : List Loc) (cells slots : Nat), mj_loop (mj_run P Fu d) M F pc loc st h = some r → mj_Rel B b D dA s M.2.2.1 h0.length (mj_sl h0) loc h ls H locs cells slots → h0.length + mc = r.2.length → mj_sl h0 + ms = mj_sl r.2 →
      W p l e (mj_rm (d + 1) mc ms) s m args below meth c H locs cells slots (vx_MQ below (mj_Qc B b D dA r) (mj_Xc B b D dA r) args s mc ms (fun q => B ≤ q)) (F0 m pc ls (st.map (mj_rv B b))) := by
  intro F
  induction F with
  | zero => intro pc loc st h r H ls locs cells slots hs; cases hs
  | succ F ihF =>
    intro pc loc st h r H ls locs cells slots hs hr hmc hms
    have hmono := mj_loop_mono (mj_run_mono P Fu d) hs
    have hC := C
    obtain ⟨hx, hb, hml, hown, hts, hK, hB, hbB, hlk, hin⟩ := C
    have hc0 := hr.2.2.2.1
    have hs0 := hr.2.2.2.2
    unfold mj_loop at hs
    split at hs
    · cases hs
    · rename_i ins r1 r2 r3 r4 r5 hcode
      have hX := hM _ _ hcode
      simp only [mj_okX] at hX
      split at hs
      · rename_i hk
        rw [hk] at hX
        split at hs
        · rename_i pc' loc' st' h' h1
          have h3 := mj_loop_mono (mj_run_mono P Fu d) hs
          exact mj_sim hC hX h1 hr (by show _ ≤ _ + mc; omega) (by show _ ≤ _ + ms; omega) (fun ls' H' locs' cells' slots' hr' => ihF _ _ _ _ _ _ _ _ _ _ hs hr' hmc hms)
        · cases hs
      · rename_i hk
        rw [hk] at hX
        split at hs
        · rename_i v h1
          cases hs
          have e1 : cells = mc := by simp only at hmc; omega
          have e2 : slots = ms := by simp only at hms; omega
          subst e1
          subst e2
          refine mj_sim_ret hx hb hlk hret (of_decide_eq_true hX) h1 (fun t ht hW => ⟨v, rfl, rfl, ?_, hr.2.2.1.F ht⟩) hr.2.2.1.2.2
          rw [ht]
          exact hr.1.moved hW.alike
        · cases hs
      · rename_i hk
        rw [hk] at hX
        split at hs
        · rename_i hcond
          obtain ⟨hh0, hcat⟩ := hcond
          cases hs
          simp only [Bool.and_eq_true, decide_eq_true_eq] at hX
          obtain ⟨hT, hthr⟩ := hX
          have hthr2 := hP.1 _ hthr
          simp only [mj_thr, Bool.and_eq_true, List.all_eq_true] at hthr2
          obtain ⟨⟨⟨hfit, hw1⟩, ho1⟩, hall⟩ := hthr2
          cases ins <;> simp only [mj_okT] at hT <;> (try exact absurd hT Bool.false_ne_true)
          rename_i ik
          simp only [Bool.and_eq_true, decide_eq_true_eq] at hT
          obtain ⟨⟨⟨⟨⟨hd0, hd3⟩, hd4⟩, hd7⟩, hw4⟩, hr5⟩ := hT
          simp only [List.length_append, List.length_cons, List.length_nil] at hmc
          rw [mj_sl_push] at hms
          simp only [mj_slot, List.length_cons, List.length_nil] at hms
          have hkw := hts _ (mj_w_of hw4).1 (mj_w_of hw4).2
          rw [hh0] at htab
          refine mj_throw0 (A := fun q => B ≤ q) hx hb hl (ik := ik) (ic := r2) (cls := mj_exc r1) (names := ["java/lang/RuntimeException", "java/lang/Exception"]) hown hfit (by decide +kernel) hkw (hts _ (mj_inw_of hw1).1 (mj_inw_of hw1).2) (fun w hw => hts _ (mj_inw_of (hall w hw).1).1 (mj_inw_of (hall w hw).1).2) ?_ hI.2.2.2.2.2.1 hI.2.2.2.2.2.2.1 hr.2.2.1 (by rw [hml, hr.2.1.1]) hd0 hd3 hd4 hd7 (by rw [htab]; intro x hx; cases hx) (by show 2 + 3 < _; simp only [mj_rm]; omega) (by rw [mj_cat_map]; show _ + (13 * 3 + 42) ≤ _; simp only [mj_rm]; omega) (by show _ ≤ mc; omega) (by show _ ≤ ms; omega) hlk ?_ hr.2.2.1.2.2 (by omega) (by omega)
          · intro w hw
            rcases List.mem_cons.mp hw with rfl | hw
            · rfl
            · rcases List.mem_cons.mp hw with rfl | hw
              · exact ho1
              · exact (hall w hw).2
          · intro t hal hz ho
            refine ⟨r1, rfl, hr5, rfl, ?_, ⟨by rw [hz]; exact Nat.le_succ_of_le hr.2.2.1.1, fun q g1 g2 => (ho q (Nat.lt_of_lt_of_le g1 hr.2.2.1.1)).trans (hr.2.2.1.2.1 q g1 g2)⟩⟩
            exact ((hr.1.push hbB (e := .inr (99, [.null, .null, .null, .null, .null, .null])) (fun h => absurd rfl h) hz ho).1).moved hal
        · cases hs
      · rename_i hk
        rw [hk] at hX
        split at hs
        · rename_i hcond
          obtain ⟨hlen, hcat, hrec⟩ := hcond
          have hPM : ∃ M', P[r1]? = some M' := by
            simp only [mj_okC] at hX
            split at hX
            · cases hX
            · rename_i hq; exact ⟨_, hq⟩
          obtain ⟨M', hPM⟩ := hPM
          have key : ∀ r', mj_run P Fu d r1 (st.take r2).reverse h = some r' → r'.2.length ≤ r.2.length → mj_sl r'.2 ≤ mj_sl r.2 → _ := fun r' h1 g1 g2 =>
            mj_mkrun (p := p) (l := l) (e := e) (below := below) (R := mj_rm (d + 1) mc ms) hC hI hX hPM (hP.2 _ _ hPM).1 hr hlen hcat hrec (ih _ _ _ _ h1 M' hPM B b D dA) (by simp only [mj_rm]; omega) (by simp only [mj_rm]; omega) (by have := (mj_run_mono P Fu d _ _ _ _ h1).1; show _ ≤ mc; omega) (by have := (mj_run_mono P Fu d _ _ _ _ h1).2; show _ ≤ ms; omega)
          split at hs
          · rename_i v h' h1
            have h3 := mj_loop_mono (mj_run_mono P Fu d) hs
            have h4 := mj_run_mono P Fu d _ _ _ _ h1
            obtain ⟨a9, hrun⟩ := key _ h1 h3.1 h3.2
            refine mj_callrow hr.2.2.1 hrun (fun v' hv' H1 locs1 hR1 hS1 => ?_) (fun i hi => by cases hi)
            cases hv'
            rw [← List.map_append]
            exact ihF _ _ _ _ _ _ _ _ _ _ hs ⟨hR1, hr.2.1, hS1, by have := h4.1; simp only at this ⊢; omega, by have := h4.2; simp only at this ⊢; omega⟩ hmc hms
          · rename_i i h' h1
            have h4 := mj_run_mono P Fu d _ _ _ _ h1
            split at hs
            · rename_i hh0
              cases hs
              obtain ⟨a9, hrun⟩ := key _ h1 (Nat.le_refl _) (Nat.le_refl _)
              rw [hh0] at htab
              refine mj_callrow hr.2.2.1 hrun (fun v' hv' => by cases hv') (fun i' hi' hi5 H1 locs1 q ce hR1 hS1 hce hcv hcl => ?_)
              cases hi'
              exact vx_out (by rw [htab]; intro x hx; cases hx) hlk hce hcv hcl (fun t ht hal => ⟨i, rfl, hi5, rfl, by rw [ht]; exact hR1.moved hal, hS1.F ht⟩) hS1.2.2 (by have := h4.1; simp only at this hmc ⊢; omega) (by have := h4.2; simp only at this hms ⊢; omega)
            · split at hs
              · rename_i k nx hfind
                split at hs
                · rename_i hkl
                  have h3 := mj_loop_mono (mj_run_mono P Fu d) hs
                  obtain ⟨a9, hrun⟩ := key _ h1 h3.1 h3.2
                  refine mj_callrow hr.2.2.1 hrun (fun v' hv' => by cases hv') (fun i' hi' hi5 H1 locs1 q ce hR1 hS1 hce hcv hcl => ?_)
                  cases hi'
                  obtain ⟨pre, a, b2, hp, ct, suf, e1, e2, e3, e4, e5⟩ := mj_find_of hfind hH
                  simp only [mj_hok, Bool.and_eq_true, Bool.not_eq_true', decide_eq_false_iff_not, decide_eq_true_eq, Bool.or_eq_true] at e4
                  obtain ⟨⟨⟨hct, hwl⟩, hx5⟩, hdec⟩ := e4
                  have hcast := List.all_eq_true.mp mj_cast_ok i (List.mem_range.mpr hx5)
                  have hgo : W p l e (mj_rm (d + 1) mc ms) s m args below meth c H1 locs1 (cells + (h'.length - h.length)) (slots + (mj_sl h' - mj_sl h)) (vx_MQ below (mj_Qc B b D dA r) (mj_Xc B b D dA r) args s mc ms (fun q => B ≤ q)) (F0 m hp ls [.ref q]) := by
                    have hgo2 : ∀ ls' : Array Slot, lv_has ls' M.2.2.1 ((k, Value.ref q) :: (mj_lv B b loc).filter (fun q => !(q.1 == k) && !(q.1 + 1 == k && q.2.category == 2))) → W p l e (mj_rm (d + 1) mc ms) s m args below meth c H1 locs1 (cells + (h'.length - h.length)) (slots + (mj_sl h' - mj_sl h)) (vx_MQ below (mj_Qc B b D dA r) (mj_Xc B b D dA r) args s mc ms (fun q => B ≤ q)) (F0 m nx ls' []) := fun ls' hl' =>
                      ihF _ _ _ _ _ _ _ _ _ _ hs ⟨hR1, hr.2.1.kill hl', hS1, by have := h4.1; simp only at this ⊢; omega, by have := h4.2; simp only at this ⊢; omega⟩ hmc hms
                    have hkn : k < M.2.2.1 := by rw [← hr.2.1.2.1]; exact hkl
                    rcases hdec with ⟨hd1, hnx⟩ | hdec
                    · subst hnx
                      exact lv_astore hx hb hd1 hr.2.1.has hkn rfl hgo2
                    · match k, hdec with
                      | 0, hdec =>
                        simp only [Bool.and_eq_true, decide_eq_true_eq] at hdec
                        obtain ⟨hd1, hnx⟩ := hdec
                        subst hnx
                        exact lv_astore_n hx hb hd1 rfl hr.2.1.has hkn rfl hgo2
                      | 1, hdec =>
                        simp only [Bool.and_eq_true, decide_eq_true_eq] at hdec
                        obtain ⟨hd1, hnx⟩ := hdec
                        subst hnx
                        exact lv_astore_n hx hb hd1 rfl hr.2.1.has hkn rfl hgo2
                      | 2, hdec =>
                        simp only [Bool.and_eq_true, decide_eq_true_eq] at hdec
                        obtain ⟨hd1, hnx⟩ := hdec
                        subst hnx
                        exact lv_astore_n hx hb hd1 rfl hr.2.1.has hkn rfl hgo2
                      | 3, hdec =>
                        simp only [Bool.and_eq_true, decide_eq_true_eq] at hdec
                        obtain ⟨hd1, hnx⟩ := hdec
                        subst hnx
                        exact lv_astore_n hx hb hd1 rfl hr.2.1.has hkn rfl hgo2
                      | k + 4, hdec => exact absurd hdec Bool.false_ne_true
                  refine vx_catch (own := M.1.cls) (name := mj_exc i) (E := mj_exc i) hown (tableOf (mj_four pre)) ⟨a, b2, hp, ct⟩ (tableOf (mj_four suf)) (by rw [htab, e1]; simp [tableOf, mj_four]) ?_ (by simp [covers, e2, e3]) hct (hts _ (mj_inw_of hwl).1 (mj_inw_of hwl).2) (hts _ (mj_inw_of hcast).1 (mj_inw_of hcast).2) hce hcv hcl hgo
                  intro z hz
                  simp only [tableOf, mj_four, List.map_map, List.mem_map] at hz
                  obtain ⟨w, hw, rfl⟩ := hz
                  obtain ⟨g1, g2⟩ := e5 w hw
                  obtain ⟨wa, wb, whp, wct, wx, wk, wn⟩ := w
                  rcases g2 with g2 | g2
                  · refine Or.inl ?_
                    simp only [covers, Function.comp_apply]
                    simp only at g2
                    by_cases hz1 : wa ≤ pc
                    · have hz2 : ¬ pc < wb := fun q => g2 ⟨hz1, q⟩
                      simp [hz2]
                    · simp [hz1]
                  · simp only [mj_hok, Bool.and_eq_true, Bool.not_eq_true', decide_eq_false_iff_not, decide_eq_true_eq] at g1
                    obtain ⟨⟨⟨hct2, hwl2⟩, hx52⟩, -⟩ := g1
                    exact Or.inr ⟨hct2, mj_exc wx, hts _ (mj_inw_of hwl2).1 (mj_inw_of hwl2).2, hI.2.2.2.2.2.2.2 i wx hx5 hx52 (fun q => g2 q.symm)⟩
                · cases hs
              · cases hs
          · cases hs
        · cases hs
      · rename_i hk0 hk1 hk2 hk3
        split at hX
        · exact absurd (by assumption) hk0
        · exact absurd (by assumption) hk1
        · exact absurd (by assumption) hk2
        · exact absurd (by assumption) hk3
        · split at hs
          · rename_i st' h' h1
            have h3 := mj_loop_mono (mj_run_mono P Fu d) hs
            exact mj_sim_prim hC hX h1 hr (by simp only [mj_rm]; omega) (by simp only [mj_rm]; omega) (by show _ ≤ _ + mc; omega) (by show _ ≤ _ + ms; omega) (fun ls' H' locs' cells' slots' hr' => ihF _ _ _ _ _ _ _ _ _ _ hs hr' hmc hms)
          · cases hs
end MJW
theorem mj_okM_h {M : mj_M} (h : mj_okM M = true) : M.2.2.2.2.2.1.all (mj_hok M.1 M.2.1) = true := by
  obtain ⟨y', cc', n', ret', code', hs', kd', i1, i2, i3, i4⟩ := M
  simp only [mj_okM, Bool.and_eq_true] at h
  exact h.1.2
theorem mj_sound {P : List mj_M} {thr : List (String × Nat × Nat)} (hP : mj_okP2 P thr) {l : Launch} (hl : l.stackTraces = false) (Fu : Nat) : ∀ (d j : Nat) (as : List Value) (h : mj_H) (r : mj_R), mj_run P Fu d j as h = some r → ∀ M, P[j]? = some M → ∀ (B b : Nat) (D : va_G) (dA : Nat → ClassId), mj_Spec l B b D dA d M as h r := by
  intro d
  induction d with
  | zero => intro j as h r hs; cases hs
  | succ d ih =>
    intro j as h r hs M hj B b D dA
    have hmono := mj_run_mono P Fu (d + 1) j as h r hs
    have hMok := hP.2 j M hj
    have hbody : ∀ (p : Program) (e : Env) (s : State) (m : MethodId) (args : Array Value) (below : List Frame) (meth : Method) (c : Code) (s₁ : State), BodyLoose p l M.1 (headSpec [mj_code M] (mj_rm (d + 1) (r.2.length - h.length) (mj_sl r.2 - mj_sl h))) M.2.1 M.2.2.1 M.2.2.2.1 e s m args below meth c s₁ → c.maxLocals = M.2.2.1 → c.exceptionTable.toList = tableOf (mj_four M.2.2.2.2.2.1) → mj_Pc B b D dA h as args s →
        W p l e (mj_rm (d + 1) (r.2.length - h.length) (mj_sl r.2 - mj_sl h)) s m args below meth c s.heap [] 0 0 (vx_MQ below (mj_Qc B b D dA r) (mj_Xc B b D dA r) args s (r.2.length - h.length) (mj_sl r.2 - mj_sl h) (fun q => B ≤ q)) (entryFrame m args M.2.2.1) := by
      intro p e s m args below meth c s₁ Bd hml htab hPc
      obtain ⟨rfl, hI⟩ := hPc
      simp only [mj_run, hj] at hs
      split at hs
      · rename_i hlen
        have hC : mj_Ctx p s m (as.map (mj_rv B b)).toArray meth c M.1 M.2.1 M.2.2.1 B b D dA := ⟨Bd.exec, Bd.bytes, hml, findClass_of_methodNamed Bd.named, fun w hw hm => mj_move hm (State.WarmedH.refl s) (hI.2.1 w hw hm), hI.2.2.1, hI.2.2.2.1, hI.2.2.2.2.1, Bd.notSynchronized, fun hy => (name_of_methodNamed Bd.named Bd.method).1.trans hy⟩
        rw [lg_entry_eq]
        exact mj_walk hP hl ih (mj_okM_h hMok.1) hMok.2 hC hI Bd.returns htab Fu 0 _ [] h r _ _ _ _ _ hs ⟨hI.1, mj_entry hlen, va_S.rf, rfl, rfl⟩ (by omega) (by omega)
      · cases hs
    have hpl : plainName M.1.cls = true := by
      have h9 := hMok.1
      obtain ⟨y', cc', n', ret', code', hs', kd', i1, i2, i3, i4⟩ := M
      simp only [mj_okM, Bool.and_eq_true] at h9
      exact h9.1.1.1.1.1.1.1
    unfold mj_Spec
    cases hh : M.2.2.2.2.2.1 with
    | nil =>
      have hcd : mj_code M = .code M.1 M.2.1 M.2.2.1 M.2.2.2.1 := by unfold mj_code; rw [hh]
      rw [hcd] at hbody ⊢
      refine vx_ofW (cc := M.2.1) (maxL := M.2.2.1) (ret := M.2.2.2.1) hpl rfl (fun p e s m args below meth c s₁ Bd hml ht hPc => hbody p e s m args below meth c s₁ Bd hml ?_ hPc)
      rw [hh]
      cases hct : c.exceptionTable.toList with
      | nil => rfl
      | cons x t => exact absurd (by rw [hct]; exact List.mem_cons_self) (ht x)
    | cons q0 t0 =>
      have hcd : mj_code M = .codeWith M.1 M.2.1 M.2.2.1 M.2.2.2.1 (mj_four (q0 :: t0)) := by unfold mj_code; rw [hh]
      rw [hcd] at hbody ⊢
      refine vx_ofWH (cc := M.2.1) (maxL := M.2.2.1) (ret := M.2.2.2.1) (hh := mj_four (q0 :: t0)) hpl rfl (fun p e s m args below meth c s₁ Bd hml hPc => hbody p e s m args below meth c s₁ Bd hml ?_ hPc)
      rw [hh]
      exact vx_table (x := M.1) Bd (atoms_spec Bd.pre _ List.mem_cons_self)
end
section
/-! The methods as the small machine runs them (by program, out of the names and the tables' words). -/
def mj_o (i : Instr) : Option mj_I := some (i, 0, 0, 0, 0, 0)
def mj_q (i : Instr) (a b c d e : Nat) : Option mj_I := some (i, a, b, c, d, e)
def mj_n : Option mj_I := none
def mj_look (l : List (Option mj_I)) (pc : Nat) : Option mj_I := match l[pc]? with
  | some x => x
  | none => none
-- 0: PolyRegisters$Bench.<init>()V
def mj_l0 : List (Option mj_I) := [mj_o (.aload_n 0), mj_q (.invokespecial 3) 0 0 5 144 0, mj_n, mj_n, mj_o (.aload_n 0), mj_o (.bipush 6), mj_n, mj_o (.bipush 13), mj_n, mj_q (.multianewarray 9 2) 0 162 0 145 146, mj_n, mj_n, mj_n, mj_q (.putfield 11) 0 0 3 147 0, mj_n, mj_n, mj_o (.aload_n 0), mj_o (.bipush 6), mj_n, mj_q (.newarray .int) 0 0 0 163 0, mj_n, mj_q (.putfield 16) 0 1 3 149 0, mj_n, mj_n, mj_o (.aload_n 0), mj_o (.bipush 6), mj_n, mj_q (.newarray .int) 0 0 0 163 0, mj_n, mj_q (.putfield 20) 0 2 3 150 0, mj_n, mj_n, mj_o .return_]
def mj_m0 : mj_M := (⟨"PolyRegisters$Bench", "<init>", "()V"⟩, prog_2_method_1_code, 1, none, mj_look mj_l0, [], 2, 143, 109, 142, 0)
-- 1: PolyRegisters$Bench.setFirstRows()V
def mj_l1 : List (Option mj_I) := [mj_o (.aload_n 0), mj_q (.getfield 11) 0 0 0 147 0, mj_n, mj_n, mj_o (.iconst 0), mj_o .aaload, mj_o (.iconst 2), mj_o (.lconst 1), mj_o .lastore, mj_o (.aload_n 0), mj_q (.getfield 11) 0 0 0 147 0, mj_n, mj_n, mj_o (.iconst 0), mj_o .aaload, mj_o (.iconst 0), mj_q (.ldc2_w 23) 18446744073709551614 0 0 413 0, mj_n, mj_n, mj_o .lastore, mj_o (.aload_n 0), mj_q (.getfield 11) 0 0 0 147 0, mj_n, mj_n, mj_o (.iconst 1), mj_o .aaload, mj_o (.iconst 3), mj_o (.lconst 1), mj_o .lastore, mj_o (.aload_n 0), mj_q (.getfield 11) 0 0 0 147 0, mj_n, mj_n, mj_o (.iconst 1), mj_o .aaload, mj_o (.iconst 1), mj_q (.ldc2_w 25) 18446744073709551615 0 0 414 0, mj_n, mj_n, mj_o .lastore, mj_o (.aload_n 0), mj_q (.getfield 11) 0 0 0 147 0, mj_n, mj_n, mj_o (.iconst 2), mj_o .aaload, mj_o (.iconst 2), mj_q (.ldc2_w 27) 6 0 0 415 0, mj_n, mj_n, mj_o .lastore, mj_o (.aload_n 0), mj_q (.getfield 11) 0 0 0 147 0, mj_n, mj_n, mj_o (.iconst 2), mj_o .aaload, mj_o (.iconst 1), mj_q (.ldc2_w 29) 18446744073709551611 0 0 416 0, mj_n, mj_n, mj_o .lastore, mj_o (.aload_n 0), mj_q (.getfield 11) 0 0 0 147 0, mj_n, mj_n, mj_o (.iconst 2), mj_o .aaload, mj_o (.iconst 0), mj_o (.lconst 1), mj_o .lastore, mj_o .return_]
def mj_m1 : mj_M := (⟨"PolyRegisters$Bench", "setFirstRows", "()V"⟩, prog_2_method_2_code, 1, none, mj_look mj_l1, [], 1, 412, 109, 410, 411)
-- 2: PolyRegisters$Bench.copy(LPolyRegisters$Bench;)V
def mj_l2 : List (Option mj_I) := [mj_o (.iconst 0), mj_o (.istore_n 2), mj_o (.iload_n 2), mj_o (.aload_n 0), mj_q (.getfield 11) 0 0 0 147 0, mj_n, mj_n, mj_o .arraylength, mj_q (.if_icmp .ge 33) 41 0 0 0 0, mj_n, mj_n, mj_o (.iload_n 2), mj_o (.aload_n 1), mj_q (.getfield 11) 0 0 0 147 0, mj_n, mj_n, mj_o .arraylength, mj_q (.if_icmp .ge 24) 41 0 0 0 0, mj_n, mj_n, mj_o (.aload_n 1), mj_q (.getfield 11) 0 0 0 147 0, mj_n, mj_n, mj_o (.iload_n 2), mj_o .aaload, mj_o (.aload_n 0), mj_q (.getfield 11) 0 0 0 147 0, mj_n, mj_n, mj_o (.iload_n 2), mj_o .aaload, mj_q (.invokestatic 31) 164 2 1 483 0, mj_n, mj_n, mj_o (.iinc 2 1), mj_n, mj_n, mj_q (.goto (-36)) 2 0 0 0 0, mj_n, mj_n, mj_o (.aload_n 0), mj_o (.iconst 0), mj_q (.putfield 35) 0 3 0 151 0, mj_n, mj_n, mj_o (.iconst 0), mj_o (.istore_n 2), mj_o (.iload_n 2), mj_o (.aload_n 1), mj_q (.getfield 35) 0 3 0 151 0, mj_n, mj_n, mj_q (.if_icmp .ge 23) 76 0 0 0 0, mj_n, mj_n, mj_o (.aload_n 0), mj_o (.aload_n 1), mj_o (.iload_n 2), mj_q (.invokevirtual 39) 5 2 0 486 0, mj_n, mj_n, mj_o (.aload_n 1), mj_o (.iload_n 2), mj_q (.invokevirtual 43) 6 2 0 490 0, mj_n, mj_n, mj_q (.invokevirtual 46) 3 3 0 494 0, mj_n, mj_n, mj_o (.iinc 2 1), mj_n, mj_n, mj_q (.goto (-25)) 48 0 0 0 0, mj_n, mj_n, mj_o .return_]
def mj_m2 : mj_M := (⟨"PolyRegisters$Bench", "copy", "(LPolyRegisters$Bench;)V"⟩, prog_2_method_3_code, 3, none, mj_look mj_l2, [], 1, 482, 109, 480, 481)
-- 3: PolyRegisters$Bench.putPoint(II)V
def mj_l3 : List (Option mj_I) := [mj_o (.aload_n 0), mj_q (.getfield 35) 0 3 0 151 0, mj_n, mj_n, mj_o (.aload_n 0), mj_q (.getfield 16) 0 1 0 149 0, mj_n, mj_n, mj_o .arraylength, mj_q (.if_icmp .ge 45) 54 0 0 0 0, mj_n, mj_n, mj_o (.aload_n 0), mj_q (.getfield 35) 0 3 0 151 0, mj_n, mj_n, mj_o (.aload_n 0), mj_q (.getfield 20) 0 2 0 150 0, mj_n, mj_n, mj_o .arraylength, mj_q (.if_icmp .ge 33) 54 0 0 0 0, mj_n, mj_n, mj_o (.aload_n 0), mj_q (.getfield 16) 0 1 0 149 0, mj_n, mj_n, mj_o (.aload_n 0), mj_q (.getfield 35) 0 3 0 151 0, mj_n, mj_n, mj_o (.iload_n 1), mj_o .iastore, mj_o (.aload_n 0), mj_q (.getfield 20) 0 2 0 150 0, mj_n, mj_n, mj_o (.aload_n 0), mj_q (.getfield 35) 0 3 0 151 0, mj_n, mj_n, mj_o (.iload_n 2), mj_o .iastore, mj_o (.aload_n 0), mj_o .dup, mj_q (.getfield 35) 0 3 0 151 0, mj_n, mj_n, mj_o (.iconst 1), mj_o .iadd, mj_q (.putfield 35) 0 3 0 151 0, mj_n, mj_n, mj_o .return_]
def mj_m3 : mj_M := (⟨"PolyRegisters$Bench", "putPoint", "(II)V"⟩, prog_2_method_4_code, 3, none, mj_look mj_l3, [], 1, 497, 109, 495, 496)
-- 4: PolyRegisters$Bench.hasPlace(I)Z
def mj_l4 : List (Option mj_I) := [mj_o (.iconst 0), mj_o (.istore_n 2), mj_o (.iload_n 2), mj_o (.aload_n 0), mj_q (.getfield 35) 0 3 0 151 0, mj_n, mj_n, mj_q (.if_icmp .ge 20) 27 0 0 0 0, mj_n, mj_n, mj_o (.aload_n 0), mj_o (.iload_n 2), mj_q (.invokevirtual 39) 5 2 0 486 0, mj_n, mj_n, mj_o (.iload_n 1), mj_q (.if_icmp .ne 5) 21 0 0 0 0, mj_n, mj_n, mj_o (.iconst 1), mj_o .ireturn, mj_o (.iinc 2 1), mj_n, mj_n, mj_q (.goto (-22)) 2 0 0 0 0, mj_n, mj_n, mj_o (.iconst 0), mj_o .ireturn]
def mj_m4 : mj_M := (⟨"PolyRegisters$Bench", "hasPlace", "(I)Z"⟩, prog_2_method_5_code, 3, some FieldType.boolean, mj_look mj_l4, [], 1, 1165, 109, 1163, 1164)
-- 5: PolyRegisters$Bench.placeAt(I)I
def mj_l5 : List (Option mj_I) := [mj_o (.iload_n 1), mj_q (.ifCond .lt 21) 22 0 0 0 0, mj_n, mj_n, mj_o (.iload_n 1), mj_o (.aload_n 0), mj_q (.getfield 16) 0 1 0 149 0, mj_n, mj_n, mj_o .arraylength, mj_q (.if_icmp .ge 12) 22 0 0 0 0, mj_n, mj_n, mj_o (.aload_n 0), mj_q (.getfield 16) 0 1 0 149 0, mj_n, mj_n, mj_o (.iload_n 1), mj_o .iaload, mj_q (.goto 4) 23 0 0 0 0, mj_n, mj_n, mj_o (.iconst 0), mj_o .ireturn]
def mj_m5 : mj_M := (⟨"PolyRegisters$Bench", "placeAt", "(I)I"⟩, prog_2_method_6_code, 2, some FieldType.int, mj_look mj_l5, [], 1, 489, 109, 488, 2)
-- 6: PolyRegisters$Bench.heightAt(I)I
def mj_l6 : List (Option mj_I) := [mj_o (.iload_n 1), mj_q (.ifCond .lt 21) 22 0 0 0 0, mj_n, mj_n, mj_o (.iload_n 1), mj_o (.aload_n 0), mj_q (.getfield 20) 0 2 0 150 0, mj_n, mj_n, mj_o .arraylength, mj_q (.if_icmp .ge 12) 22 0 0 0 0, mj_n, mj_n, mj_o (.aload_n 0), mj_q (.getfield 20) 0 2 0 150 0, mj_n, mj_n, mj_o (.iload_n 1), mj_o .iaload, mj_q (.goto 4) 23 0 0 0 0, mj_n, mj_n, mj_o (.iconst 0), mj_o .ireturn]
def mj_m6 : mj_M := (⟨"PolyRegisters$Bench", "heightAt", "(I)I"⟩, prog_2_method_7_code, 2, some FieldType.int, mj_look mj_l6, [], 1, 493, 109, 491, 492)
-- 7: PolyRegisters$Bench.weight(I)J
def mj_l7 : List (Option mj_I) := [mj_o (.lconst 1), mj_o (.lstore_n 2), mj_o (.iconst 0), mj_o (.istore 4), mj_n, mj_o (.iload 4), mj_n, mj_o (.aload_n 0), mj_q (.getfield 35) 0 3 0 151 0, mj_n, mj_n, mj_q (.if_icmp .ge 31) 42 0 0 0 0, mj_n, mj_n, mj_o (.iload 4), mj_n, mj_o (.iload_n 1), mj_q (.if_icmp .eq 19) 36 0 0 0 0, mj_n, mj_n, mj_o (.lload_n 2), mj_o (.aload_n 0), mj_o (.iload_n 1), mj_q (.invokevirtual 39) 5 2 0 486 0, mj_n, mj_n, mj_o (.aload_n 0), mj_o (.iload 4), mj_n, mj_q (.invokevirtual 39) 5 2 0 486 0, mj_n, mj_n, mj_o .isub, mj_o .i2l, mj_o .lmul, mj_o (.lstore_n 2), mj_o (.iinc 4 1), mj_n, mj_n, mj_q (.goto (-34)) 5 0 0 0 0, mj_n, mj_n, mj_o (.lload_n 2), mj_o .lreturn]
def mj_m7 : mj_M := (⟨"PolyRegisters$Bench", "weight", "(I)J"⟩, prog_2_method_8_code, 5, some FieldType.long, mj_look mj_l7, [], 1, 1181, 109, 1179, 1180)
-- 8: PolyRegisters$Bench.commonWeight()J
def mj_l8 : List (Option mj_I) := [mj_o (.lconst 1), mj_o (.lstore_n 1), mj_o (.iconst 0), mj_o (.istore_n 3), mj_o (.iload_n 3), mj_o (.aload_n 0), mj_q (.getfield 35) 0 3 0 151 0, mj_n, mj_n, mj_q (.if_icmp .ge 43) 52 0 0 0 0, mj_n, mj_n, mj_o (.aload_n 0), mj_o (.iload_n 3), mj_q (.invokevirtual 50) 7 2 0 1178 0, mj_n, mj_n, mj_o (.lstore 4), mj_n, mj_o (.lload_n 1), mj_o (.lload 4), mj_n, mj_q (.invokestatic 54) 171 2 1 1182 0, mj_n, mj_n, mj_o (.lstore 6), mj_n, mj_o (.lload_n 1), mj_o (.lload 6), mj_n, mj_o (.lconst 0), mj_o .lcmp, mj_q (.ifCond .ne 7) 39 0 0 0 0, mj_n, mj_n, mj_o (.lconst 1), mj_q (.goto 8) 44 0 0 0 0, mj_n, mj_n, mj_o (.lload 4), mj_n, mj_o (.lload 6), mj_n, mj_o .ldiv, mj_o .lmul, mj_o (.lstore_n 1), mj_o (.iinc 3 1), mj_n, mj_n, mj_q (.goto (-45)) 4 0 0 0 0, mj_n, mj_n, mj_o (.lload_n 1), mj_o (.lconst 0), mj_o .lcmp, mj_q (.ifCond .ge 8) 63 0 0 0 0, mj_n, mj_n, mj_o (.lload_n 1), mj_o .lneg, mj_q (.goto 4) 64 0 0 0 0, mj_n, mj_n, mj_o (.lload_n 1), mj_o .lreturn]
def mj_m8 : mj_M := (⟨"PolyRegisters$Bench", "commonWeight", "()J"⟩, prog_2_method_9_code, 8, some FieldType.long, mj_look mj_l8, [], 1, 1177, 109, 1175, 1176)
-- 9: PolyRegisters$Bench.putBasis(I[J)V
def mj_l9 : List (Option mj_I) := [mj_o (.aload_n 2), mj_q (.invokestatic 58) 165 1 1 1189 0, mj_n, mj_n, mj_o (.aload_n 2), mj_o (.iconst 0), mj_o (.lconst 1), mj_o .lastore, mj_o (.iconst 0), mj_o (.istore_n 3), mj_o (.iload_n 3), mj_o (.aload_n 0), mj_q (.getfield 35) 0 3 0 151 0, mj_n, mj_n, mj_q (.if_icmp .ge 62) 77 0 0 0 0, mj_n, mj_n, mj_o (.iload_n 3), mj_o (.iload_n 1), mj_q (.if_icmp .eq 51) 71 0 0 0 0, mj_n, mj_n, mj_o (.aload_n 2), mj_o .arraylength, mj_o (.iconst 1), mj_o .isub, mj_o (.istore 4), mj_n, mj_o (.iload 4), mj_n, mj_q (.ifCond .lt 40) 71 0 0 0 0, mj_n, mj_n, mj_o (.aload_n 2), mj_o (.iload 4), mj_n, mj_o (.iload 4), mj_n, mj_q (.ifCond .le 12) 51 0 0 0 0, mj_n, mj_n, mj_o (.aload_n 2), mj_o (.iload 4), mj_n, mj_o (.iconst 1), mj_o .isub, mj_o .laload, mj_q (.goto 4) 52 0 0 0 0, mj_n, mj_n, mj_o (.lconst 0), mj_o (.aload_n 0), mj_o (.iload_n 3), mj_q (.invokevirtual 39) 5 2 0 486 0, mj_n, mj_n, mj_o .i2l, mj_o (.aload_n 2), mj_o (.iload 4), mj_n, mj_o .laload, mj_o .lmul, mj_o .lsub, mj_o .lastore, mj_o (.iinc 4 (-1)), mj_n, mj_n, mj_q (.goto (-39)) 29 0 0 0 0, mj_n, mj_n, mj_o (.iinc 3 1), mj_n, mj_n, mj_q (.goto (-64)) 10 0 0 0 0, mj_n, mj_n, mj_o .return_]
def mj_m9 : mj_M := (⟨"PolyRegisters$Bench", "putBasis", "(I[J)V"⟩, prog_2_method_10_code, 5, none, mj_look mj_l9, [], 1, 1188, 109, 1186, 1187)
-- 10: PolyRegisters$Desk.<init>()V
def mj_l10_0 : List (Option mj_I) := [mj_o (.aload_n 0), mj_q (.invokespecial 3) 0 0 5 186 0, mj_n, mj_n, mj_o (.aload_n 0), mj_q (.new 9) 3 0 0 187 0, mj_n, mj_n, mj_o .dup, mj_o (.bipush 13), mj_n, mj_o (.bipush 30), mj_n, mj_o (.iconst 0), mj_q (.invokespecial 11) 35 4 0 189 0, mj_n, mj_n, mj_q (.putfield 14) 1 0 3 253 0, mj_n, mj_n, mj_o (.aload_n 0), mj_q (.new 9) 3 0 0 187 0, mj_n, mj_n, mj_o .dup, mj_o (.bipush 13), mj_n, mj_o (.bipush 30), mj_n, mj_o (.iconst 0), mj_q (.invokespecial 11) 35 4 0 189 0, mj_n, mj_n, mj_q (.putfield 20) 1 1 3 256 0, mj_n, mj_n, mj_o (.aload_n 0), mj_q (.new 9) 3 0 0 187 0, mj_n, mj_n, mj_o .dup, mj_o (.bipush 13), mj_n, mj_o (.sipush 236), mj_n, mj_n, mj_o (.iconst 0), mj_q (.invokespecial 11) 35 4 0 189 0, mj_n, mj_n, mj_q (.putfield 23) 1 2 3 258 0, mj_n, mj_n, mj_o (.aload_n 0), mj_q (.new 9) 3 0 0 187 0, mj_n, mj_n, mj_o .dup, mj_o (.bipush 25), mj_n, mj_o (.bipush 6), mj_n, mj_o (.iconst 0), mj_q (.invokespecial 11) 35 4 0 189 0, mj_n, mj_n, mj_q (.putfield 26) 1 3 3 261 0, mj_n, mj_n, mj_o (.aload_n 0), mj_q (.new 29) 8 0 0 232 0, mj_n, mj_n, mj_o .dup, mj_o (.sipush 240), mj_n, mj_n, mj_q (.invokespecial 31) 85 2 0 233 0, mj_n, mj_n, mj_q (.putfield 34) 1 4 3 262 0, mj_n, mj_n, mj_o (.aload_n 0), mj_q (.new 29) 8 0 0 232 0, mj_n, mj_n, mj_o .dup, mj_o (.sipush 240), mj_n, mj_n, mj_q (.invokespecial 31) 85 2 0 233 0, mj_n, mj_n, mj_q (.putfield 38) 1 5 3 265 0, mj_n, mj_n, mj_o (.aload_n 0), mj_q (.new 29) 8 0 0 232 0, mj_n, mj_n, mj_o .dup, mj_o (.bipush 40), mj_n, mj_q (.invokespecial 31) 85 2 0 233 0, mj_n, mj_n, mj_q (.putfield 41) 1 6 3 268 0, mj_n, mj_n, mj_o (.aload_n 0), mj_q (.new 44) 2 0 0 234 0, mj_n, mj_n, mj_o .dup, mj_o (.bipush 60), mj_n, mj_q (.invokespecial 46) 29 2 0 236 0, mj_n, mj_n]
def mj_l10_1 : List (Option mj_I) := [mj_q (.putfield 47) 1 7 3 269 0, mj_n, mj_n, mj_o .return_]
def mj_l10 : List (Option mj_I) := mj_l10_0 ++ (mj_l10_1)
def mj_m10 : mj_M := (⟨"PolyRegisters$Desk", "<init>", "()V"⟩, prog_3_method_1_code, 1, none, mj_look mj_l10, [], 2, 185, 111, 184, 0)
-- 11: PolyRegisters$Desk.multiplyRows([J[J[J)Z
def mj_l11 : List (Option mj_I) := [mj_o (.aload_n 0), mj_q (.getfield 14) 1 0 0 253 0, mj_n, mj_n, mj_o (.aload_n 1), mj_o (.lconst 1), mj_q (.invokevirtual 51) 40 3 0 565 3, mj_n, mj_n, mj_o (.aload_n 0), mj_q (.getfield 20) 1 1 0 256 0, mj_n, mj_n, mj_o (.aload_n 2), mj_o (.lconst 1), mj_q (.invokevirtual 51) 40 3 0 565 3, mj_n, mj_n, mj_o (.aload_n 0), mj_o (.aload_n 0), mj_q (.getfield 26) 1 3 0 261 0, mj_n, mj_n, mj_o (.aload_n 0), mj_q (.getfield 14) 1 0 0 253 0, mj_n, mj_n, mj_o (.aload_n 0), mj_q (.getfield 20) 1 1 0 256 0, mj_n, mj_n, mj_q (.invokevirtual 55) 14 4 0 574 1, mj_n, mj_n, mj_q (.ifCond .eq 18) 52 0 0 0 0, mj_n, mj_n, mj_o (.aload_n 0), mj_q (.getfield 26) 1 3 0 261 0, mj_n, mj_n, mj_o (.aload_n 3), mj_q (.invokevirtual 59) 44 2 0 700 3, mj_n, mj_n, mj_q (.ifCond .eq 7) 52 0 0 0 0, mj_n, mj_n, mj_o (.iconst 1), mj_q (.goto 4) 53 0 0 0 0, mj_n, mj_n, mj_o (.iconst 0), mj_o .ireturn]
def mj_m11 : mj_M := (⟨"PolyRegisters$Desk", "multiplyRows", "([J[J[J)Z"⟩, prog_3_method_2_code, 4, some FieldType.boolean, mj_look mj_l11, [], 1, 712, 111, 710, 711)
-- 12: PolyRegisters$Desk.raise([JI[J)Z
def mj_l12 : List (Option mj_I) := [mj_o (.aload_n 0), mj_q (.getfield 20) 1 1 0 256 0, mj_n, mj_n, mj_o (.aload_n 1), mj_o (.lconst 1), mj_q (.invokevirtual 51) 40 3 0 565 3, mj_n, mj_n, mj_o (.aload_n 0), mj_q (.getfield 14) 1 0 0 253 0, mj_n, mj_n, mj_q (.invokevirtual 63) 39 1 0 578 3, mj_n, mj_n, mj_o (.aload_n 0), mj_q (.getfield 14) 1 0 0 253 0, mj_n, mj_n, mj_o (.iconst 0), mj_q (.invokevirtual 66) 36 2 0 586 3, mj_n, mj_n, mj_o (.lconst 1), mj_q (.invokevirtual 70) 86 2 0 693 8, mj_n, mj_n, mj_o (.aload_n 0), mj_q (.getfield 14) 1 0 0 253 0, mj_n, mj_n, mj_q (.invokevirtual 74) 42 1 0 621 3, mj_n, mj_n, mj_o (.iconst 0), mj_o (.istore 4), mj_n, mj_o (.iload 4), mj_n, mj_o (.iload_n 2), mj_q (.if_icmp .ge 41) 82 0 0 0 0, mj_n, mj_n, mj_o (.aload_n 0), mj_o (.aload_n 0), mj_q (.getfield 23) 1 2 0 258 0, mj_n, mj_n, mj_o (.aload_n 0), mj_q (.getfield 14) 1 0 0 253 0, mj_n, mj_n, mj_o (.aload_n 0), mj_q (.getfield 20) 1 1 0 256 0, mj_n, mj_n, mj_q (.invokevirtual 55) 14 4 0 574 1, mj_n, mj_n, mj_q (.ifCond .ne 5) 65 0 0 0 0, mj_n, mj_n, mj_o (.iconst 0), mj_o .ireturn, mj_o (.aload_n 0), mj_q (.getfield 14) 1 0 0 253 0, mj_n, mj_n, mj_o (.aload_n 0), mj_q (.getfield 23) 1 2 0 258 0, mj_n, mj_n, mj_q (.invokevirtual 77) 41 2 0 694 3, mj_n, mj_n, mj_o (.iinc 4 1), mj_n, mj_n, mj_q (.goto (-41)) 38 0 0 0 0, mj_n, mj_n, mj_o (.aload_n 0), mj_q (.getfield 14) 1 0 0 253 0, mj_n, mj_n, mj_o (.aload_n 3), mj_q (.invokevirtual 59) 44 2 0 700 3, mj_n, mj_n, mj_o .ireturn]
def mj_m12 : mj_M := (⟨"PolyRegisters$Desk", "raise", "([JI[J)Z"⟩, prog_3_method_3_code, 5, some FieldType.boolean, mj_look mj_l12, [], 1, 692, 111, 690, 691)
-- 13: PolyRegisters$Desk.putIn([J[J[J)Z
def mj_l13 : List (Option mj_I) := [mj_o (.aload_n 0), mj_q (.getfield 20) 1 1 0 256 0, mj_n, mj_n, mj_o (.aload_n 2), mj_o (.lconst 1), mj_q (.invokevirtual 51) 40 3 0 565 3, mj_n, mj_n, mj_o (.aload_n 0), mj_q (.getfield 14) 1 0 0 253 0, mj_n, mj_n, mj_q (.invokevirtual 63) 39 1 0 578 3, mj_n, mj_n, mj_o (.aload_n 1), mj_o .arraylength, mj_o (.iconst 1), mj_o .isub, mj_o (.istore 4), mj_n, mj_o (.iload 4), mj_n, mj_q (.ifCond .lt 68) 92 0 0 0 0, mj_n, mj_n, mj_o (.aload_n 0), mj_o (.aload_n 0), mj_q (.getfield 23) 1 2 0 258 0, mj_n, mj_n, mj_o (.aload_n 0), mj_q (.getfield 14) 1 0 0 253 0, mj_n, mj_n, mj_o (.aload_n 0), mj_q (.getfield 20) 1 1 0 256 0, mj_n, mj_n, mj_q (.invokevirtual 55) 14 4 0 574 1, mj_n, mj_n, mj_q (.ifCond .ne 5) 48 0 0 0 0, mj_n, mj_n, mj_o (.iconst 0), mj_o .ireturn, mj_o (.aload_n 0), mj_q (.getfield 34) 1 4 0 262 0, mj_n, mj_n, mj_o (.aload_n 1), mj_o (.iload 4), mj_n, mj_o .laload, mj_q (.invokevirtual 70) 86 2 0 693 8, mj_n, mj_n, mj_o (.aload_n 0), mj_q (.getfield 23) 1 2 0 258 0, mj_n, mj_n, mj_o (.iconst 0), mj_q (.invokevirtual 66) 36 2 0 586 3, mj_n, mj_n, mj_o (.aload_n 0), mj_q (.getfield 34) 1 4 0 262 0, mj_n, mj_n, mj_o (.iconst 1), mj_q (.invokevirtual 81) 91 3 0 600 8, mj_n, mj_n, mj_o (.aload_n 0), mj_q (.getfield 14) 1 0 0 253 0, mj_n, mj_n, mj_o (.aload_n 0), mj_q (.getfield 23) 1 2 0 258 0, mj_n, mj_n, mj_q (.invokevirtual 77) 41 2 0 694 3, mj_n, mj_n, mj_o (.iinc 4 (-1)), mj_n, mj_n, mj_q (.goto (-67)) 22 0 0 0 0, mj_n, mj_n, mj_o (.aload_n 0), mj_q (.getfield 14) 1 0 0 253 0, mj_n, mj_n, mj_o (.aload_n 3), mj_q (.invokevirtual 59) 44 2 0 700 3, mj_n, mj_n, mj_o .ireturn]
def mj_m13 : mj_M := (⟨"PolyRegisters$Desk", "putIn", "([J[J[J)Z"⟩, prog_3_method_4_code, 5, some FieldType.boolean, mj_look mj_l13, [], 1, 923, 111, 921, 922)
-- 14: PolyRegisters$Desk.times(LPolyRegisters$Poly;LPolyRegisters$Poly;LPolyRegisters$Poly;)Z
def mj_l14_0 : List (Option mj_I) := [mj_o (.aload_n 1), mj_q (.invokevirtual 63) 39 1 0 578 3, mj_n, mj_n, mj_o (.aload_n 2), mj_q (.getfield 85) 3 2 0 224 0, mj_n, mj_n, mj_q (.ifCond .lt 28) 36 0 0 0 0, mj_n, mj_n, mj_o (.aload_n 3), mj_q (.getfield 85) 3 2 0 224 0, mj_n, mj_n, mj_q (.ifCond .lt 21) 36 0 0 0 0, mj_n, mj_n, mj_o (.aload_n 2), mj_q (.getfield 85) 3 2 0 224 0, mj_n, mj_n, mj_o (.aload_n 3), mj_q (.getfield 85) 3 2 0 224 0, mj_n, mj_n, mj_o .iadd, mj_o (.aload_n 1), mj_q (.invokevirtual 89) 38 1 0 582 3, mj_n, mj_n, mj_q (.if_icmp .le 5) 36 0 0 0 0, mj_n, mj_n, mj_o (.iconst 0), mj_o .ireturn, mj_o (.iconst 0), mj_o (.istore 4), mj_n, mj_o (.iload 4), mj_n, mj_o (.aload_n 2), mj_q (.getfield 85) 3 2 0 224 0, mj_n, mj_n, mj_q (.if_icmp .gt 75) 120 0 0 0 0, mj_n, mj_n, mj_o (.iconst 0), mj_o (.istore 5), mj_n, mj_o (.iload 5), mj_n, mj_o (.aload_n 3), mj_q (.getfield 85) 3 2 0 224 0, mj_n, mj_n, mj_q (.if_icmp .gt 57) 114 0 0 0 0, mj_n, mj_n, mj_o (.aload_n 2), mj_o (.iload 4), mj_n, mj_q (.invokevirtual 66) 36 2 0 586 3, mj_n, mj_n, mj_q (.getfield 93) 8 2 0 206 1, mj_n, mj_n, mj_q (.ifCond .eq 45) 114 0 0 0 0, mj_n, mj_n, mj_o (.aload_n 0), mj_q (.getfield 34) 1 4 0 262 0, mj_n, mj_n, mj_o (.aload_n 2), mj_o (.iload 4), mj_n, mj_q (.invokevirtual 66) 36 2 0 586 3, mj_n, mj_n, mj_o (.aload_n 3), mj_o (.iload 5), mj_n, mj_q (.invokevirtual 66) 36 2 0 586 3, mj_n, mj_n, mj_q (.invokevirtual 96) 95 3 0 590 8, mj_n, mj_n, mj_o (.aload_n 1), mj_o (.iload 4), mj_n, mj_o (.iload 5), mj_n, mj_o .iadd, mj_q (.invokevirtual 66) 36 2 0 586 3, mj_n, mj_n, mj_o (.aload_n 0), mj_q (.getfield 34) 1 4 0 262 0, mj_n, mj_n, mj_o (.iconst 1), mj_q (.invokevirtual 81) 91 3 0 600 8, mj_n, mj_n, mj_o (.iinc 5 1), mj_n, mj_n, mj_q (.goto (-60)) 51 0 0 0 0, mj_n, mj_n, mj_o (.iinc 4 1), mj_n, mj_n, mj_q (.goto (-78)) 39 0 0 0 0, mj_n, mj_n]
def mj_l14_1 : List (Option mj_I) := [mj_o (.aload_n 1), mj_q (.invokevirtual 74) 42 1 0 621 3, mj_n, mj_n, mj_o (.iconst 1), mj_o .ireturn]
def mj_l14 : List (Option mj_I) := mj_l14_0 ++ (mj_l14_1)
def mj_m14 : mj_M := (⟨"PolyRegisters$Desk", "times", "(LPolyRegisters$Poly;LPolyRegisters$Poly;LPolyRegisters$Poly;)Z"⟩, prog_3_method_5_code, 6, some FieldType.boolean, mj_look mj_l14, [], 1, 577, 111, 576, 4)
-- 15: PolyRegisters$Desk.addsDegrees([J[J)Z
def mj_l15 : List (Option mj_I) := [mj_o (.aload_n 0), mj_q (.getfield 14) 1 0 0 253 0, mj_n, mj_n, mj_o (.aload_n 1), mj_o (.lconst 1), mj_q (.invokevirtual 51) 40 3 0 565 3, mj_n, mj_n, mj_o (.aload_n 0), mj_q (.getfield 20) 1 1 0 256 0, mj_n, mj_n, mj_o (.aload_n 2), mj_o (.lconst 1), mj_q (.invokevirtual 51) 40 3 0 565 3, mj_n, mj_n, mj_o (.aload_n 0), mj_o (.aload_n 0), mj_q (.getfield 26) 1 3 0 261 0, mj_n, mj_n, mj_o (.aload_n 0), mj_q (.getfield 14) 1 0 0 253 0, mj_n, mj_n, mj_o (.aload_n 0), mj_q (.getfield 20) 1 1 0 256 0, mj_n, mj_n, mj_q (.invokevirtual 55) 14 4 0 574 1, mj_n, mj_n, mj_o .pop, mj_o (.aload_n 0), mj_q (.getfield 14) 1 0 0 253 0, mj_n, mj_n, mj_q (.getfield 85) 3 2 0 224 0, mj_n, mj_n, mj_q (.ifCond .lt 13) 55 0 0 0 0, mj_n, mj_n, mj_o (.aload_n 0), mj_q (.getfield 20) 1 1 0 256 0, mj_n, mj_n, mj_q (.getfield 85) 3 2 0 224 0, mj_n, mj_n, mj_q (.ifCond .ge 7) 59 0 0 0 0, mj_n, mj_n, mj_o (.iconst (-1)), mj_q (.goto 18) 74 0 0 0 0, mj_n, mj_n, mj_o (.aload_n 0), mj_q (.getfield 14) 1 0 0 253 0, mj_n, mj_n, mj_q (.getfield 85) 3 2 0 224 0, mj_n, mj_n, mj_o (.aload_n 0), mj_q (.getfield 20) 1 1 0 256 0, mj_n, mj_n, mj_q (.getfield 85) 3 2 0 224 0, mj_n, mj_n, mj_o .iadd, mj_o (.istore_n 3), mj_o (.aload_n 0), mj_q (.getfield 26) 1 3 0 261 0, mj_n, mj_n, mj_q (.getfield 85) 3 2 0 224 0, mj_n, mj_n, mj_o (.iload_n 3), mj_q (.if_icmp .ne 7) 90 0 0 0 0, mj_n, mj_n, mj_o (.iconst 1), mj_q (.goto 4) 91 0 0 0 0, mj_n, mj_n, mj_o (.iconst 0), mj_o .ireturn]
def mj_m15 : mj_M := (⟨"PolyRegisters$Desk", "addsDegrees", "([J[J)Z"⟩, prog_3_method_6_code, 4, some FieldType.boolean, mj_look mj_l15, [], 1, 564, 111, 562, 563)
-- 16: PolyRegisters$Desk.divideRows([J[J[J[J)Z
def mj_l16_0 : List (Option mj_I) := [mj_o (.aload_n 0), mj_q (.getfield 23) 1 2 0 258 0, mj_n, mj_n, mj_o (.aload_n 1), mj_o (.lconst 1), mj_q (.invokevirtual 51) 40 3 0 565 3, mj_n, mj_n, mj_o (.aload_n 0), mj_q (.getfield 20) 1 1 0 256 0, mj_n, mj_n, mj_o (.aload_n 2), mj_o (.lconst 1), mj_q (.invokevirtual 51) 40 3 0 565 3, mj_n, mj_n, mj_o (.aload_n 0), mj_q (.getfield 14) 1 0 0 253 0, mj_n, mj_n, mj_q (.invokevirtual 63) 39 1 0 578 3, mj_n, mj_n, mj_o (.aload_n 0), mj_q (.getfield 23) 1 2 0 258 0, mj_n, mj_n, mj_q (.getfield 85) 3 2 0 224 0, mj_n, mj_n, mj_o (.aload_n 0), mj_q (.getfield 20) 1 1 0 256 0, mj_n, mj_n, mj_q (.getfield 85) 3 2 0 224 0, mj_n, mj_n, mj_o .isub, mj_o (.istore 5), mj_n, mj_o (.iload 5), mj_n, mj_q (.ifCond .lt 115) 159 0 0 0 0, mj_n, mj_n, mj_o (.iload 5), mj_n, mj_o (.iconst 1), mj_o .iadd, mj_o (.istore 6), mj_n, mj_o (.iload 6), mj_n, mj_o (.aload_n 0), mj_q (.getfield 14) 1 0 0 253 0, mj_n, mj_n, mj_q (.invokevirtual 89) 38 1 0 582 3, mj_n, mj_n, mj_q (.if_icmp .gt 48) 110 0 0 0 0, mj_n, mj_n, mj_o (.aload_n 0), mj_q (.getfield 34) 1 4 0 262 0, mj_n, mj_n, mj_o (.aload_n 0), mj_q (.getfield 14) 1 0 0 253 0, mj_n, mj_n, mj_o (.iload 6), mj_n, mj_q (.invokevirtual 66) 36 2 0 586 3, mj_n, mj_n, mj_o (.aload_n 0), mj_q (.getfield 20) 1 1 0 256 0, mj_n, mj_n, mj_q (.invokevirtual 100) 37 1 0 958 3, mj_n, mj_n, mj_q (.invokevirtual 96) 95 3 0 590 8, mj_n, mj_n, mj_o (.aload_n 0), mj_q (.getfield 14) 1 0 0 253 0, mj_n, mj_n, mj_o (.iload 6), mj_n, mj_q (.invokevirtual 66) 36 2 0 586 3, mj_n, mj_n, mj_o (.aload_n 0), mj_q (.getfield 34) 1 4 0 262 0, mj_n, mj_n, mj_q (.invokevirtual 104) 87 2 0 962 8, mj_n, mj_n, mj_o (.iinc 6 1), mj_n, mj_n, mj_q (.goto (-54)) 53 0 0 0 0, mj_n, mj_n, mj_o (.aload_n 0), mj_q (.getfield 14) 1 0 0 253 0, mj_n, mj_n, mj_o (.iload 5), mj_n, mj_q (.invokevirtual 66) 36 2 0 586 3, mj_n, mj_n, mj_o (.aload_n 0)]
def mj_l16_1 : List (Option mj_I) := [mj_q (.getfield 23) 1 2 0 258 0, mj_n, mj_n, mj_o (.aload_n 0), mj_q (.getfield 20) 1 1 0 256 0, mj_n, mj_n, mj_q (.getfield 85) 3 2 0 224 0, mj_n, mj_n, mj_o (.iload 5), mj_n, mj_o .iadd, mj_q (.invokevirtual 66) 36 2 0 586 3, mj_n, mj_n, mj_q (.invokevirtual 104) 87 2 0 962 8, mj_n, mj_n, mj_o (.aload_n 0), mj_o (.aload_n 0), mj_q (.getfield 23) 1 2 0 258 0, mj_n, mj_n, mj_o (.aload_n 0), mj_q (.getfield 20) 1 1 0 256 0, mj_n, mj_n, mj_o (.iload 5), mj_n, mj_q (.invokevirtual 107) 17 4 0 963 1, mj_n, mj_n, mj_o (.iinc 5 (-1)), mj_n, mj_n, mj_q (.goto (-114)) 42 0 0 0 0, mj_n, mj_n, mj_o (.aload_n 0), mj_q (.getfield 14) 1 0 0 253 0, mj_n, mj_n, mj_o (.aload_n 3), mj_q (.invokevirtual 59) 44 2 0 700 3, mj_n, mj_n, mj_q (.ifCond .eq 19) 186 0 0 0 0, mj_n, mj_n, mj_o (.aload_n 0), mj_q (.getfield 23) 1 2 0 258 0, mj_n, mj_n, mj_o (.aload 4), mj_n, mj_q (.invokevirtual 59) 44 2 0 700 3, mj_n, mj_n, mj_q (.ifCond .eq 7) 186 0 0 0 0, mj_n, mj_n, mj_o (.iconst 1), mj_q (.goto 4) 187 0 0 0 0, mj_n, mj_n, mj_o (.iconst 0), mj_o .ireturn]
def mj_l16 : List (Option mj_I) := mj_l16_0 ++ (mj_l16_1)
def mj_m16 : mj_M := (⟨"PolyRegisters$Desk", "divideRows", "([J[J[J[J)Z"⟩, prog_3_method_7_code, 7, some FieldType.boolean, mj_look mj_l16, [], 1, 957, 111, 955, 956)
-- 17: PolyRegisters$Desk.eliminate(LPolyRegisters$Poly;LPolyRegisters$Poly;I)V
def mj_l17 : List (Option mj_I) := [mj_o (.aload_n 1), mj_o (.aload_n 2), mj_q (.getfield 85) 3 2 0 224 0, mj_n, mj_n, mj_o (.iload_n 3), mj_o .iadd, mj_q (.invokevirtual 66) 36 2 0 586 3, mj_n, mj_n, mj_o (.astore 4), mj_n, mj_o (.aload_n 2), mj_q (.invokevirtual 100) 37 1 0 958 3, mj_n, mj_n, mj_o (.astore 5), mj_n, mj_o (.iconst 0), mj_o (.istore 6), mj_n, mj_o (.iload 6), mj_n, mj_o (.aload_n 2), mj_q (.getfield 85) 3 2 0 224 0, mj_n, mj_n, mj_o (.iload_n 3), mj_o .iadd, mj_q (.if_icmp .ge 72) 101 0 0 0 0, mj_n, mj_n, mj_o (.aload_n 1), mj_o (.iload 6), mj_n, mj_q (.invokevirtual 66) 36 2 0 586 3, mj_n, mj_n, mj_o (.astore 7), mj_n, mj_o (.aload_n 0), mj_q (.getfield 34) 1 4 0 262 0, mj_n, mj_n, mj_o (.aload 7), mj_n, mj_o (.aload 5), mj_n, mj_q (.invokevirtual 96) 95 3 0 590 8, mj_n, mj_n, mj_o (.iload 6), mj_n, mj_o (.iload_n 3), mj_q (.if_icmp .lt 32) 86 0 0 0 0, mj_n, mj_n, mj_o (.aload_n 0), mj_q (.getfield 38) 1 5 0 265 0, mj_n, mj_n, mj_o (.aload 4), mj_n, mj_o (.aload_n 2), mj_o (.iload 6), mj_n, mj_o (.iload_n 3), mj_o .isub, mj_q (.invokevirtual 66) 36 2 0 586 3, mj_n, mj_n, mj_q (.invokevirtual 96) 95 3 0 590 8, mj_n, mj_n, mj_o (.aload_n 0), mj_q (.getfield 34) 1 4 0 262 0, mj_n, mj_n, mj_o (.aload_n 0), mj_q (.getfield 38) 1 5 0 265 0, mj_n, mj_n, mj_o (.iconst (-1)), mj_q (.invokevirtual 81) 91 3 0 600 8, mj_n, mj_n, mj_o (.aload 7), mj_n, mj_o (.aload_n 0), mj_q (.getfield 34) 1 4 0 262 0, mj_n, mj_n, mj_q (.invokevirtual 104) 87 2 0 962 8, mj_n, mj_n, mj_o (.iinc 6 1), mj_n, mj_n, mj_q (.goto (-77)) 21 0 0 0 0, mj_n, mj_n, mj_o (.aload 4), mj_n, mj_o (.lconst 0), mj_q (.invokevirtual 70) 86 2 0 693 8, mj_n, mj_n, mj_o .return_]
def mj_m17 : mj_M := (⟨"PolyRegisters$Desk", "eliminate", "(LPolyRegisters$Poly;LPolyRegisters$Poly;I)V"⟩, prog_3_method_8_code, 8, none, mj_look mj_l17, [], 1, 966, 111, 964, 965)
-- 18: PolyRegisters$Desk.isDivided([J[J)Z
def mj_l18 : List (Option mj_I) := [mj_o (.aload_n 0), mj_q (.getfield 23) 1 2 0 258 0, mj_n, mj_n, mj_o (.aload_n 1), mj_o (.lconst 1), mj_q (.invokevirtual 51) 40 3 0 565 3, mj_n, mj_n, mj_o (.aload_n 0), mj_q (.getfield 20) 1 1 0 256 0, mj_n, mj_n, mj_o (.aload_n 2), mj_o (.lconst 1), mj_q (.invokevirtual 51) 40 3 0 565 3, mj_n, mj_n, mj_o (.aload_n 0), mj_q (.getfield 23) 1 2 0 258 0, mj_n, mj_n, mj_q (.getfield 85) 3 2 0 224 0, mj_n, mj_n, mj_o (.aload_n 0), mj_q (.getfield 20) 1 1 0 256 0, mj_n, mj_n, mj_q (.getfield 85) 3 2 0 224 0, mj_n, mj_n, mj_q (.if_icmp .lt 13) 45 0 0 0 0, mj_n, mj_n, mj_o (.aload_n 0), mj_q (.getfield 20) 1 1 0 256 0, mj_n, mj_n, mj_q (.getfield 85) 3 2 0 224 0, mj_n, mj_n, mj_q (.ifCond .ge 19) 61 0 0 0 0, mj_n, mj_n, mj_o (.aload_n 0), mj_q (.getfield 23) 1 2 0 258 0, mj_n, mj_n, mj_q (.getfield 85) 3 2 0 224 0, mj_n, mj_n, mj_q (.ifCond .ge 7) 59 0 0 0 0, mj_n, mj_n, mj_o (.iconst 1), mj_q (.goto 4) 60 0 0 0 0, mj_n, mj_n, mj_o (.iconst 0), mj_o .ireturn, mj_o (.aload_n 0), mj_o (.aload_n 0), mj_q (.getfield 20) 1 1 0 256 0, mj_n, mj_n, mj_o (.aload_n 0), mj_q (.getfield 14) 1 0 0 253 0, mj_n, mj_n, mj_q (.invokevirtual 111) 19 3 0 1280 1, mj_n, mj_n, mj_o .ireturn]
def mj_m18 : mj_M := (⟨"PolyRegisters$Desk", "isDivided", "([J[J)Z"⟩, prog_3_method_9_code, 3, some FieldType.boolean, mj_look mj_l18, [], 1, 1279, 111, 1277, 1278)
-- 19: PolyRegisters$Desk.divideExactly(LPolyRegisters$Poly;LPolyRegisters$Poly;)Z
def mj_l19_0 : List (Option mj_I) := [mj_o (.aload_n 2), mj_q (.invokevirtual 63) 39 1 0 578 3, mj_n, mj_n, mj_o (.aload_n 0), mj_q (.getfield 47) 1 7 0 269 0, mj_n, mj_n, mj_o (.aload_n 1), mj_q (.invokevirtual 100) 37 1 0 958 3, mj_n, mj_n, mj_q (.invokevirtual 115) 30 2 0 1009 2, mj_n, mj_n, mj_o (.aload_n 0), mj_q (.getfield 23) 1 2 0 258 0, mj_n, mj_n, mj_q (.getfield 85) 3 2 0 224 0, mj_n, mj_n, mj_o (.aload_n 1), mj_q (.getfield 85) 3 2 0 224 0, mj_n, mj_n, mj_o .isub, mj_o (.istore_n 3), mj_o (.iload_n 3), mj_q (.ifCond .lt 113) 142 0 0 0 0, mj_n, mj_n, mj_o (.aload_n 2), mj_o (.iload_n 3), mj_q (.invokevirtual 66) 36 2 0 586 3, mj_n, mj_n, mj_o (.astore 4), mj_n, mj_o (.aload_n 0), mj_q (.getfield 34) 1 4 0 262 0, mj_n, mj_n, mj_o (.aload_n 0), mj_q (.getfield 23) 1 2 0 258 0, mj_n, mj_n, mj_o (.aload_n 1), mj_q (.getfield 85) 3 2 0 224 0, mj_n, mj_n, mj_o (.iload_n 3), mj_o .iadd, mj_q (.invokevirtual 66) 36 2 0 586 3, mj_n, mj_n, mj_q (.invokevirtual 104) 87 2 0 962 8, mj_n, mj_n, mj_o (.aload_n 0), mj_q (.getfield 47) 1 7 0 269 0, mj_n, mj_n, mj_o (.aload_n 0), mj_q (.getfield 34) 1 4 0 262 0, mj_n, mj_n, mj_o (.aload 4), mj_n, mj_q (.invokevirtual 118) 31 3 0 1015 2, mj_n, mj_n, mj_o (.aload_n 0), mj_q (.getfield 34) 1 4 0 262 0, mj_n, mj_n, mj_q (.getfield 93) 8 2 0 206 1, mj_n, mj_n, mj_q (.ifCond .eq 5) 84 0 0 0 0, mj_n, mj_n, mj_o (.iconst 0), mj_o .ireturn, mj_o (.iconst 0), mj_o (.istore 5), mj_n, mj_o (.iload 5), mj_n, mj_o (.aload_n 1), mj_q (.getfield 85) 3 2 0 224 0, mj_n, mj_n, mj_q (.if_icmp .gt 43) 136 0 0 0 0, mj_n, mj_n, mj_o (.aload_n 0), mj_q (.getfield 38) 1 5 0 265 0, mj_n, mj_n, mj_o (.aload 4), mj_n, mj_o (.aload_n 1), mj_o (.iload 5), mj_n, mj_q (.invokevirtual 66) 36 2 0 586 3, mj_n, mj_n, mj_q (.invokevirtual 96) 95 3 0 590 8, mj_n, mj_n, mj_o (.aload_n 0), mj_q (.getfield 23) 1 2 0 258 0, mj_n, mj_n, mj_o (.iload 5), mj_n, mj_o (.iload_n 3), mj_o .iadd, mj_q (.invokevirtual 66) 36 2 0 586 3]
def mj_l19_1 : List (Option mj_I) := [mj_n, mj_n, mj_o (.aload_n 0), mj_q (.getfield 38) 1 5 0 265 0, mj_n, mj_n, mj_o (.iconst (-1)), mj_q (.invokevirtual 81) 91 3 0 600 8, mj_n, mj_n, mj_o (.iinc 5 1), mj_n, mj_n, mj_q (.goto (-46)) 87 0 0 0 0, mj_n, mj_n, mj_o (.iinc 3 (-1)), mj_n, mj_n, mj_q (.goto (-111)) 28 0 0 0 0, mj_n, mj_n, mj_o (.aload_n 2), mj_q (.invokevirtual 74) 42 1 0 621 3, mj_n, mj_n, mj_o (.aload_n 0), mj_q (.getfield 23) 1 2 0 258 0, mj_n, mj_n, mj_q (.invokevirtual 74) 42 1 0 621 3, mj_n, mj_n, mj_o (.aload_n 0), mj_q (.getfield 23) 1 2 0 258 0, mj_n, mj_n, mj_q (.getfield 85) 3 2 0 224 0, mj_n, mj_n, mj_q (.ifCond .ge 7) 167 0 0 0 0, mj_n, mj_n, mj_o (.iconst 1), mj_q (.goto 4) 168 0 0 0 0, mj_n, mj_n, mj_o (.iconst 0), mj_o .ireturn]
def mj_l19 : List (Option mj_I) := mj_l19_0 ++ (mj_l19_1)
def mj_m19 : mj_M := (⟨"PolyRegisters$Desk", "divideExactly", "(LPolyRegisters$Poly;LPolyRegisters$Poly;)Z"⟩, prog_3_method_10_code, 6, some FieldType.boolean, mj_look mj_l19, [], 1, 1123, 111, 1121, 1122)
-- 20: PolyRegisters$Desk.divideParts(LPolyRegisters$Poly;LPolyRegisters$Wide;I)V
def mj_l20 : List (Option mj_I) := [mj_o (.aload_n 0), mj_q (.getfield 47) 1 7 0 269 0, mj_n, mj_n, mj_o (.aload_n 2), mj_q (.invokevirtual 115) 30 2 0 1009 2, mj_n, mj_n, mj_o (.iconst 0), mj_o (.istore 4), mj_n, mj_o (.iload 4), mj_n, mj_o (.aload_n 1), mj_q (.getfield 85) 3 2 0 224 0, mj_n, mj_n, mj_q (.if_icmp .gt 54) 71 0 0 0 0, mj_n, mj_n, mj_o (.aload_n 1), mj_o (.iload 4), mj_n, mj_q (.invokevirtual 66) 36 2 0 586 3, mj_n, mj_n, mj_o (.astore 5), mj_n, mj_o (.iconst 0), mj_o (.istore 6), mj_n, mj_o (.iload 6), mj_n, mj_o (.iload_n 3), mj_q (.if_icmp .ge 31) 65 0 0 0 0, mj_n, mj_n, mj_o (.aload_n 0), mj_q (.getfield 47) 1 7 0 269 0, mj_n, mj_n, mj_o (.aload 5), mj_n, mj_o (.aload_n 0), mj_q (.getfield 34) 1 4 0 262 0, mj_n, mj_n, mj_q (.invokevirtual 118) 31 3 0 1015 2, mj_n, mj_n, mj_o (.aload 5), mj_n, mj_o (.aload_n 0), mj_q (.getfield 34) 1 4 0 262 0, mj_n, mj_n, mj_q (.invokevirtual 104) 87 2 0 962 8, mj_n, mj_n, mj_o (.iinc 6 1), mj_n, mj_n, mj_q (.goto (-31)) 31 0 0 0 0, mj_n, mj_n, mj_o (.iinc 4 1), mj_n, mj_n, mj_q (.goto (-57)) 11 0 0 0 0, mj_n, mj_n, mj_o .return_]
def mj_m20 : mj_M := (⟨"PolyRegisters$Desk", "divideParts", "(LPolyRegisters$Poly;LPolyRegisters$Wide;I)V"⟩, prog_3_method_11_code, 7, none, mj_look mj_l20, [], 1, 1008, 111, 1006, 1007)
-- 21: PolyRegisters$Desk.gather(J[J)V
def mj_l21 : List (Option mj_I) := [mj_o (.aload_n 0), mj_q (.getfield 41) 1 6 0 268 0, mj_n, mj_n, mj_o (.lload_n 1), mj_q (.invokevirtual 70) 86 2 0 693 8, mj_n, mj_n, mj_o (.iconst 0), mj_o (.istore 4), mj_n, mj_o (.iload 4), mj_n, mj_o (.aload_n 3), mj_o .arraylength, mj_q (.if_icmp .ge 52) 67 0 0 0 0, mj_n, mj_n, mj_o (.aload_n 0), mj_q (.getfield 38) 1 5 0 265 0, mj_n, mj_n, mj_o (.aload_n 3), mj_o (.iload 4), mj_n, mj_o .laload, mj_q (.invokevirtual 70) 86 2 0 693 8, mj_n, mj_n, mj_o (.aload_n 0), mj_q (.getfield 34) 1 4 0 262 0, mj_n, mj_n, mj_o (.aload_n 0), mj_q (.getfield 41) 1 6 0 268 0, mj_n, mj_n, mj_o (.aload_n 0), mj_q (.getfield 38) 1 5 0 265 0, mj_n, mj_n, mj_q (.invokevirtual 96) 95 3 0 590 8, mj_n, mj_n, mj_o (.aload_n 0), mj_q (.getfield 14) 1 0 0 253 0, mj_n, mj_n, mj_o (.iload 4), mj_n, mj_q (.invokevirtual 66) 36 2 0 586 3, mj_n, mj_n, mj_o (.aload_n 0), mj_q (.getfield 34) 1 4 0 262 0, mj_n, mj_n, mj_o (.iconst 1), mj_q (.invokevirtual 81) 91 3 0 600 8, mj_n, mj_n, mj_o (.iinc 4 1), mj_n, mj_n, mj_q (.goto (-53)) 11 0 0 0 0, mj_n, mj_n, mj_o (.aload_n 0), mj_q (.getfield 14) 1 0 0 253 0, mj_n, mj_n, mj_q (.invokevirtual 74) 42 1 0 621 3, mj_n, mj_n, mj_o .return_]
def mj_m21 : mj_M := (⟨"PolyRegisters$Desk", "gather", "(J[J)V"⟩, prog_3_method_12_code, 5, none, mj_look mj_l21, [], 1, 1194, 111, 1192, 1193)
-- 22: PolyRegisters$Desk.shorten(J)J
def mj_l22 : List (Option mj_I) := [mj_o (.lload_n 1), mj_o (.lstore_n 3), mj_o (.iconst 0), mj_o (.istore 5), mj_n, mj_o (.iload 5), mj_n, mj_o (.aload_n 0), mj_q (.getfield 14) 1 0 0 253 0, mj_n, mj_n, mj_q (.getfield 85) 3 2 0 224 0, mj_n, mj_n, mj_q (.if_icmp .gt 24) 38 0 0 0 0, mj_n, mj_n, mj_o (.aload_n 0), mj_o (.aload_n 0), mj_q (.getfield 14) 1 0 0 253 0, mj_n, mj_n, mj_o (.iload 5), mj_n, mj_q (.invokevirtual 66) 36 2 0 586 3, mj_n, mj_n, mj_o (.lload_n 3), mj_q (.invokevirtual 121) 23 3 0 1085 1, mj_n, mj_n, mj_o (.lstore_n 3), mj_o (.iinc 5 1), mj_n, mj_n, mj_q (.goto (-30)) 5 0 0 0 0, mj_n, mj_n, mj_o (.aload_n 0), mj_q (.getfield 41) 1 6 0 268 0, mj_n, mj_n, mj_o (.lload_n 3), mj_q (.invokevirtual 70) 86 2 0 693 8, mj_n, mj_n, mj_o (.aload_n 0), mj_o (.aload_n 0), mj_q (.getfield 14) 1 0 0 253 0, mj_n, mj_n, mj_o (.aload_n 0), mj_q (.getfield 41) 1 6 0 268 0, mj_n, mj_n, mj_o (.iconst 1), mj_q (.invokevirtual 125) 20 4 0 1091 1, mj_n, mj_n, mj_o (.lload_n 3), mj_o .lreturn]
def mj_m22 : mj_M := (⟨"PolyRegisters$Desk", "shorten", "(J)J"⟩, prog_3_method_13_code, 6, some FieldType.long, mj_look mj_l22, [], 1, 1084, 111, 1082, 1083)
-- 23: PolyRegisters$Desk.commonOf(LPolyRegisters$Wide;J)J
def mj_l23 : List (Option mj_I) := [mj_o (.aload_n 0), mj_q (.getfield 41) 1 6 0 268 0, mj_n, mj_n, mj_o (.lload_n 2), mj_q (.invokevirtual 70) 86 2 0 693 8, mj_n, mj_n, mj_o (.aload_n 0), mj_q (.getfield 47) 1 7 0 269 0, mj_n, mj_n, mj_o (.aload_n 0), mj_q (.getfield 41) 1 6 0 268 0, mj_n, mj_n, mj_q (.invokevirtual 115) 30 2 0 1009 2, mj_n, mj_n, mj_o (.aload_n 0), mj_q (.getfield 38) 1 5 0 265 0, mj_n, mj_n, mj_o (.aload_n 1), mj_q (.invokevirtual 104) 87 2 0 962 8, mj_n, mj_n, mj_o (.aload_n 0), mj_q (.getfield 47) 1 7 0 269 0, mj_n, mj_n, mj_o (.aload_n 0), mj_q (.getfield 38) 1 5 0 265 0, mj_n, mj_n, mj_o (.aload_n 0), mj_q (.getfield 34) 1 4 0 262 0, mj_n, mj_n, mj_q (.invokevirtual 118) 31 3 0 1015 2, mj_n, mj_n, mj_o (.aload_n 0), mj_q (.getfield 38) 1 5 0 265 0, mj_n, mj_n, mj_q (.invokevirtual 129) 100 1 0 1089 8, mj_n, mj_n, mj_o (.lload_n 2), mj_q (.invokestatic 133) 171 2 1 1090 0, mj_n, mj_n, mj_o .lreturn]
def mj_m23 : mj_M := (⟨"PolyRegisters$Desk", "commonOf", "(LPolyRegisters$Wide;J)J"⟩, prog_3_method_14_code, 4, some FieldType.long, mj_look mj_l23, [], 1, 1088, 111, 1086, 1087)
-- 24: PolyRegisters$Desk.enlarge(LPolyRegisters$Wide;J)V
def mj_l24 : List (Option mj_I) := [mj_o (.aload_n 0), mj_q (.getfield 41) 1 6 0 268 0, mj_n, mj_n, mj_o (.lload_n 2), mj_q (.invokevirtual 70) 86 2 0 693 8, mj_n, mj_n, mj_o (.aload_n 0), mj_q (.getfield 34) 1 4 0 262 0, mj_n, mj_n, mj_o (.aload_n 1), mj_o (.aload_n 0), mj_q (.getfield 41) 1 6 0 268 0, mj_n, mj_n, mj_q (.invokevirtual 96) 95 3 0 590 8, mj_n, mj_n, mj_o (.aload_n 1), mj_o (.aload_n 0), mj_q (.getfield 34) 1 4 0 262 0, mj_n, mj_n, mj_q (.invokevirtual 104) 87 2 0 962 8, mj_n, mj_n, mj_o .return_]
def mj_m24 : mj_M := (⟨"PolyRegisters$Desk", "enlarge", "(LPolyRegisters$Wide;J)V"⟩, prog_3_method_15_code, 4, none, mj_look mj_l24, [], 1, 1078, 111, 1076, 1077)
-- 25: PolyRegisters$Desk.lessen(LPolyRegisters$Wide;J)V
def mj_l25 : List (Option mj_I) := [mj_o (.aload_n 0), mj_q (.getfield 41) 1 6 0 268 0, mj_n, mj_n, mj_o (.lload_n 2), mj_q (.invokevirtual 70) 86 2 0 693 8, mj_n, mj_n, mj_o (.aload_n 0), mj_q (.getfield 47) 1 7 0 269 0, mj_n, mj_n, mj_o (.aload_n 0), mj_q (.getfield 41) 1 6 0 268 0, mj_n, mj_n, mj_q (.invokevirtual 115) 30 2 0 1009 2, mj_n, mj_n, mj_o (.aload_n 0), mj_q (.getfield 47) 1 7 0 269 0, mj_n, mj_n, mj_o (.aload_n 1), mj_o (.aload_n 0), mj_q (.getfield 34) 1 4 0 262 0, mj_n, mj_n, mj_q (.invokevirtual 118) 31 3 0 1015 2, mj_n, mj_n, mj_o (.aload_n 1), mj_o (.aload_n 0), mj_q (.getfield 34) 1 4 0 262 0, mj_n, mj_n, mj_q (.invokevirtual 104) 87 2 0 962 8, mj_n, mj_n, mj_o .return_]
def mj_m25 : mj_M := (⟨"PolyRegisters$Desk", "lessen", "(LPolyRegisters$Wide;J)V"⟩, prog_3_method_16_code, 4, none, mj_look mj_l25, [], 1, 1267, 111, 1265, 1266)
-- 26: PolyRegisters$Desk.stretch(LPolyRegisters$Poly;J)V
def mj_l26 : List (Option mj_I) := [mj_o (.aload_n 0), mj_q (.getfield 41) 1 6 0 268 0, mj_n, mj_n, mj_o (.lconst 1), mj_q (.invokevirtual 70) 86 2 0 693 8, mj_n, mj_n, mj_o (.aload_n 1), mj_q (.getfield 85) 3 2 0 224 0, mj_n, mj_n, mj_o (.iconst 1), mj_o .isub, mj_o (.istore 4), mj_n, mj_o (.iload 4), mj_n, mj_q (.ifCond .lt 79) 97 0 0 0 0, mj_n, mj_n, mj_o (.lload_n 2), mj_o (.lconst 1), mj_o .lcmp, mj_q (.ifCond .eq 73) 97 0 0 0 0, mj_n, mj_n, mj_o (.aload_n 0), mj_q (.getfield 38) 1 5 0 265 0, mj_n, mj_n, mj_o (.lload_n 2), mj_q (.invokevirtual 70) 86 2 0 693 8, mj_n, mj_n, mj_o (.aload_n 0), mj_q (.getfield 34) 1 4 0 262 0, mj_n, mj_n, mj_o (.aload_n 0), mj_q (.getfield 41) 1 6 0 268 0, mj_n, mj_n, mj_o (.aload_n 0), mj_q (.getfield 38) 1 5 0 265 0, mj_n, mj_n, mj_q (.invokevirtual 96) 95 3 0 590 8, mj_n, mj_n, mj_o (.aload_n 0), mj_q (.getfield 41) 1 6 0 268 0, mj_n, mj_n, mj_o (.aload_n 0), mj_q (.getfield 34) 1 4 0 262 0, mj_n, mj_n, mj_q (.invokevirtual 104) 87 2 0 962 8, mj_n, mj_n, mj_o (.aload_n 0), mj_q (.getfield 34) 1 4 0 262 0, mj_n, mj_n, mj_o (.aload_n 1), mj_o (.iload 4), mj_n, mj_q (.invokevirtual 66) 36 2 0 586 3, mj_n, mj_n, mj_o (.aload_n 0), mj_q (.getfield 41) 1 6 0 268 0, mj_n, mj_n, mj_q (.invokevirtual 96) 95 3 0 590 8, mj_n, mj_n, mj_o (.aload_n 1), mj_o (.iload 4), mj_n, mj_q (.invokevirtual 66) 36 2 0 586 3, mj_n, mj_n, mj_o (.aload_n 0), mj_q (.getfield 34) 1 4 0 262 0, mj_n, mj_n, mj_q (.invokevirtual 104) 87 2 0 962 8, mj_n, mj_n, mj_o (.iinc 4 (-1)), mj_n, mj_n, mj_q (.goto (-78)) 16 0 0 0 0, mj_n, mj_n, mj_o .return_]
def mj_m26 : mj_M := (⟨"PolyRegisters$Desk", "stretch", "(LPolyRegisters$Poly;J)V"⟩, prog_3_method_17_code, 5, none, mj_look mj_l26, [], 1, 1253, 111, 1251, 1252)
-- 27: PolyRegisters$Desk.valueAt([JII)I
def mj_l27 : List (Option mj_I) := [mj_o (.aload_n 0), mj_q (.getfield 23) 1 2 0 258 0, mj_n, mj_n, mj_o (.aload_n 1), mj_o (.lconst 1), mj_q (.invokevirtual 51) 40 3 0 565 3, mj_n, mj_n, mj_o (.aload_n 0), mj_o (.aload_n 0), mj_q (.getfield 23) 1 2 0 258 0, mj_n, mj_n, mj_o (.iload_n 3), mj_o .i2l, mj_q (.invokevirtual 137) 26 3 0 1250 1, mj_n, mj_n, mj_o (.aload_n 0), mj_q (.getfield 41) 1 6 0 268 0, mj_n, mj_n, mj_o (.iload_n 2), mj_o .i2l, mj_q (.invokevirtual 70) 86 2 0 693 8, mj_n, mj_n, mj_o (.aload_n 0), mj_o (.aload_n 0), mj_q (.getfield 23) 1 2 0 258 0, mj_n, mj_n, mj_o (.aload_n 0), mj_q (.getfield 41) 1 6 0 268 0, mj_n, mj_n, mj_q (.invokevirtual 141) 28 3 0 1254 1, mj_n, mj_n, mj_o .ireturn]
def mj_m27 : mj_M := (⟨"PolyRegisters$Desk", "valueAt", "([JII)I"⟩, prog_3_method_18_code, 4, some FieldType.int, mj_look mj_l27, [], 1, 1249, 111, 1247, 1248)
-- 28: PolyRegisters$Desk.valueAt(LPolyRegisters$Poly;LPolyRegisters$Wide;)I
def mj_l28 : List (Option mj_I) := [mj_o (.aload_n 0), mj_q (.getfield 34) 1 4 0 262 0, mj_n, mj_n, mj_o (.lconst 0), mj_q (.invokevirtual 70) 86 2 0 693 8, mj_n, mj_n, mj_o (.aload_n 1), mj_q (.getfield 85) 3 2 0 224 0, mj_n, mj_n, mj_o (.istore_n 3), mj_o (.iload_n 3), mj_q (.ifCond .lt 45) 59 0 0 0 0, mj_n, mj_n, mj_o (.aload_n 0), mj_q (.getfield 38) 1 5 0 265 0, mj_n, mj_n, mj_o (.aload_n 0), mj_q (.getfield 34) 1 4 0 262 0, mj_n, mj_n, mj_o (.aload_n 2), mj_q (.invokevirtual 96) 95 3 0 590 8, mj_n, mj_n, mj_o (.aload_n 0), mj_q (.getfield 38) 1 5 0 265 0, mj_n, mj_n, mj_o (.aload_n 1), mj_o (.iload_n 3), mj_q (.invokevirtual 66) 36 2 0 586 3, mj_n, mj_n, mj_o (.iconst 1), mj_q (.invokevirtual 81) 91 3 0 600 8, mj_n, mj_n, mj_o (.aload_n 0), mj_q (.getfield 34) 1 4 0 262 0, mj_n, mj_n, mj_o (.aload_n 0), mj_q (.getfield 38) 1 5 0 265 0, mj_n, mj_n, mj_q (.invokevirtual 104) 87 2 0 962 8, mj_n, mj_n, mj_o (.iinc 3 (-1)), mj_n, mj_n, mj_q (.goto (-43)) 13 0 0 0 0, mj_n, mj_n, mj_o (.aload_n 0), mj_q (.getfield 34) 1 4 0 262 0, mj_n, mj_n, mj_q (.getfield 93) 8 2 0 206 1, mj_n, mj_n, mj_o .ireturn]
def mj_m28 : mj_M := (⟨"PolyRegisters$Desk", "valueAt", "(LPolyRegisters$Poly;LPolyRegisters$Wide;)I"⟩, prog_3_method_19_code, 4, some FieldType.int, mj_look mj_l28, [], 1, 1257, 111, 1255, 1256)
-- 29: PolyRegisters$Divisor.<init>(I)V
def mj_l29 : List (Option mj_I) := [mj_o (.aload_n 0), mj_q (.invokespecial 1) 0 0 5 239 0, mj_n, mj_n, mj_o (.aload_n 0), mj_o (.lconst 1), mj_q (.putfield 7) 2 3 1 243 0, mj_n, mj_n, mj_o (.aload_n 0), mj_o (.iload_n 1), mj_q (.ifCond .le 7) 18 0 0 0 0, mj_n, mj_n, mj_o (.iload_n 1), mj_q (.goto 4) 19 0 0 0 0, mj_n, mj_n, mj_o (.iconst 1), mj_q (.newarray .int) 0 0 0 163 0, mj_n, mj_q (.putfield 13) 2 0 3 240 0, mj_n, mj_n, mj_o .return_]
def mj_m29 : mj_M := (⟨"PolyRegisters$Divisor", "<init>", "(I)V"⟩, prog_4_method_1_code, 2, none, mj_look mj_l29, [], 2, 238, 114, 237, 0)
-- 30: PolyRegisters$Divisor.prepare(LPolyRegisters$Wide;)V
def mj_l30_0 : List (Option mj_I) := [mj_o (.aload_n 1), mj_q (.getfield 17) 8 0 0 200 1, mj_n, mj_n, mj_o (.astore_n 2), mj_o (.aload_n 0), mj_o (.aload_n 1), mj_q (.getfield 20) 8 1 0 202 1, mj_n, mj_n, mj_o (.aload_n 0), mj_q (.getfield 13) 2 0 0 240 0, mj_n, mj_n, mj_o .arraylength, mj_o (.aload_n 2), mj_o .arraylength, mj_q (.invokestatic 24) 0 0 3 1013 0, mj_n, mj_n, mj_q (.invokestatic 24) 0 0 3 1013 0, mj_n, mj_n, mj_q (.putfield 30) 2 1 0 241 0, mj_n, mj_n, mj_o (.aload_n 0), mj_o (.aload_n 1), mj_q (.getfield 31) 8 2 0 204 1, mj_n, mj_n, mj_q (.putfield 34) 2 2 0 242 0, mj_n, mj_n, mj_o (.aload_n 0), mj_o (.aload_n 0), mj_q (.getfield 30) 2 1 0 241 0, mj_n, mj_n, mj_q (.ifCond .le 32) 71 0 0 0 0, mj_n, mj_n, mj_o (.aload_n 2), mj_o (.aload_n 0), mj_q (.getfield 30) 2 1 0 241 0, mj_n, mj_n, mj_o (.iconst 1), mj_o .isub, mj_o .iaload, mj_q (.ifCond .le 21) 71 0 0 0 0, mj_n, mj_n, mj_q (.ldc2_w 35) 1000000000 0 0 1014 0, mj_n, mj_n, mj_o (.aload_n 2), mj_o (.aload_n 0), mj_q (.getfield 30) 2 1 0 241 0, mj_n, mj_n, mj_o (.iconst 1), mj_o .isub, mj_o .iaload, mj_o .i2l, mj_o (.lconst 1), mj_o .ladd, mj_o .ldiv, mj_q (.goto 4) 72 0 0 0 0, mj_n, mj_n, mj_o (.lconst 1), mj_q (.putfield 7) 2 3 1 243 0, mj_n, mj_n, mj_o (.lconst 0), mj_o (.lstore_n 3), mj_o (.iconst 0), mj_o (.istore 5), mj_n, mj_o (.iload 5), mj_n, mj_o (.aload_n 0), mj_q (.getfield 30) 2 1 0 241 0, mj_n, mj_n, mj_q (.if_icmp .ge 44) 130 0 0 0 0, mj_n, mj_n, mj_o (.aload_n 2), mj_o (.iload 5), mj_n, mj_o .iaload, mj_o .i2l, mj_o (.aload_n 0), mj_q (.getfield 7) 2 3 0 243 0, mj_n, mj_n, mj_o .lmul, mj_o (.lload_n 3), mj_o .ladd, mj_o (.lstore 6), mj_n, mj_o (.aload_n 0), mj_q (.getfield 13) 2 0 0 240 0, mj_n, mj_n, mj_o (.iload 5), mj_n, mj_o (.lload 6), mj_n, mj_q (.ldc2_w 35) 1000000000 0 0 1014 0, mj_n, mj_n, mj_o .lrem, mj_o .l2i, mj_o .iastore, mj_o (.lload 6), mj_n, mj_q (.ldc2_w 35) 1000000000 0 0 1014 0]
def mj_l30_1 : List (Option mj_I) := [mj_n, mj_n, mj_o .ldiv, mj_o (.lstore_n 3), mj_o (.iinc 5 1), mj_n, mj_n, mj_q (.goto (-47)) 80 0 0 0 0, mj_n, mj_n, mj_o .return_]
def mj_l30 : List (Option mj_I) := mj_l30_0 ++ (mj_l30_1)
def mj_m30 : mj_M := (⟨"PolyRegisters$Divisor", "prepare", "(LPolyRegisters$Wide;)V"⟩, prog_4_method_2_code, 8, none, mj_look mj_l30, [], 1, 1012, 114, 1010, 1011)
-- 31: PolyRegisters$Divisor.split(LPolyRegisters$Wide;LPolyRegisters$Wide;)V
def mj_l31_0 : List (Option mj_I) := [mj_o (.aload_n 1), mj_q (.getfield 31) 8 2 0 204 1, mj_n, mj_n, mj_o (.aload_n 0), mj_q (.getfield 34) 2 2 0 242 0, mj_n, mj_n, mj_o .imul, mj_o (.istore_n 3), mj_o (.aload_n 2), mj_o (.lconst 0), mj_q (.invokevirtual 37) 86 2 0 1019 8, mj_n, mj_n, mj_o (.iload_n 3), mj_q (.ifCond .ne 4) 20 0 0 0 0, mj_n, mj_n, mj_o .return_, mj_o (.aload_n 1), mj_o (.aload_n 0), mj_q (.getfield 7) 2 3 0 243 0, mj_n, mj_n, mj_q (.invokevirtual 41) 96 2 0 1020 8, mj_n, mj_n, mj_o (.aload_n 1), mj_q (.getfield 20) 8 1 0 202 1, mj_n, mj_n, mj_o (.aload_n 0), mj_q (.getfield 30) 2 1 0 241 0, mj_n, mj_n, mj_o .isub, mj_o (.istore 4), mj_n, mj_o (.iload 4), mj_n, mj_q (.ifCond .lt 57) 98 0 0 0 0, mj_n, mj_n, mj_o (.aload_n 0), mj_o (.aload_n 1), mj_o (.iload 4), mj_n, mj_o (.aload_n 0), mj_q (.getfield 30) 2 1 0 241 0, mj_n, mj_n, mj_o .iadd, mj_q (.invokevirtual 44) 32 3 0 1024 2, mj_n, mj_n, mj_o (.lstore 5), mj_n, mj_o (.aload_n 0), mj_o (.aload_n 1), mj_o (.iload 4), mj_n, mj_o (.lload 5), mj_n, mj_q (.invokevirtual 48) 33 4 0 1028 2, mj_n, mj_n, mj_q (.ifCond .ne 16) 83 0 0 0 0, mj_n, mj_n, mj_o (.aload_n 0), mj_o (.aload_n 1), mj_o (.iload 4), mj_n, mj_q (.invokevirtual 52) 34 3 0 1033 2, mj_n, mj_n, mj_o (.lload 5), mj_n, mj_o (.lconst 1), mj_o .lsub, mj_o (.lstore 5), mj_n, mj_o (.aload_n 2), mj_o (.iload 4), mj_n, mj_o (.lload 5), mj_n, mj_o .l2i, mj_q (.invokevirtual 56) 90 3 0 1038 8, mj_n, mj_n, mj_o (.iinc 4 (-1)), mj_n, mj_n, mj_q (.goto (-56)) 39 0 0 0 0, mj_n, mj_n, mj_o (.aload_n 2), mj_o (.aload_n 2), mj_q (.getfield 20) 8 1 0 202 1, mj_n, mj_n, mj_q (.ifCond .ne 7) 110 0 0 0 0, mj_n, mj_n, mj_o (.iconst 0), mj_q (.goto 4) 111 0 0 0 0, mj_n, mj_n, mj_o (.iload_n 3), mj_q (.putfield 31) 8 2 0 204 1, mj_n, mj_n, mj_o (.aload_n 1), mj_o (.aload_n 0), mj_q (.getfield 7) 2 3 0 243 0, mj_n, mj_n, mj_q (.invokevirtual 60) 97 2 0 1042 8]
def mj_l31_1 : List (Option mj_I) := [mj_n, mj_n, mj_o .return_]
def mj_l31 : List (Option mj_I) := mj_l31_0 ++ (mj_l31_1)
def mj_m31 : mj_M := (⟨"PolyRegisters$Divisor", "split", "(LPolyRegisters$Wide;LPolyRegisters$Wide;)V"⟩, prog_4_method_3_code, 7, none, mj_look mj_l31, [], 1, 1018, 114, 1016, 1017)
-- 32: PolyRegisters$Divisor.guess(LPolyRegisters$Wide;I)J
def mj_l32_0 : List (Option mj_I) := [mj_o (.aload_n 1), mj_q (.getfield 17) 8 0 0 200 1, mj_n, mj_n, mj_o (.astore_n 3), mj_o (.iload_n 2), mj_o (.iconst 1), mj_q (.if_icmp .lt 44) 51 0 0 0 0, mj_n, mj_n, mj_o (.iload_n 2), mj_o (.aload_n 3), mj_o .arraylength, mj_q (.if_icmp .gt 38) 51 0 0 0 0, mj_n, mj_n, mj_o (.aload_n 0), mj_q (.getfield 30) 2 1 0 241 0, mj_n, mj_n, mj_o (.iconst 1), mj_q (.if_icmp .lt 30) 51 0 0 0 0, mj_n, mj_n, mj_o (.aload_n 0), mj_q (.getfield 30) 2 1 0 241 0, mj_n, mj_n, mj_o (.aload_n 0), mj_q (.getfield 13) 2 0 0 240 0, mj_n, mj_n, mj_o .arraylength, mj_q (.if_icmp .gt 18) 51 0 0 0 0, mj_n, mj_n, mj_o (.aload_n 0), mj_q (.getfield 13) 2 0 0 240 0, mj_n, mj_n, mj_o (.aload_n 0), mj_q (.getfield 30) 2 1 0 241 0, mj_n, mj_n, mj_o (.iconst 1), mj_o .isub, mj_o .iaload, mj_o (.iconst 1), mj_q (.if_icmp .ge 5) 53 0 0 0 0, mj_n, mj_n, mj_o (.lconst 0), mj_o .lreturn, mj_o (.aload_n 0), mj_q (.getfield 13) 2 0 0 240 0, mj_n, mj_n, mj_o (.aload_n 0), mj_q (.getfield 30) 2 1 0 241 0, mj_n, mj_n, mj_o (.iconst 1), mj_o .isub, mj_o .iaload, mj_o .i2l, mj_o (.lstore 4), mj_n, mj_o (.aload_n 0), mj_q (.getfield 30) 2 1 0 241 0, mj_n, mj_n, mj_o (.iconst 1), mj_q (.if_icmp .le 18) 90 0 0 0 0, mj_n, mj_n, mj_o (.aload_n 0), mj_q (.getfield 13) 2 0 0 240 0, mj_n, mj_n, mj_o (.aload_n 0), mj_q (.getfield 30) 2 1 0 241 0, mj_n, mj_n, mj_o (.iconst 2), mj_o .isub, mj_o .iaload, mj_o .i2l, mj_q (.goto 4) 91 0 0 0 0, mj_n, mj_n, mj_o (.lconst 0), mj_o (.lstore 6), mj_n, mj_o (.iload_n 2), mj_o (.aload_n 1), mj_q (.getfield 20) 8 1 0 202 1, mj_n, mj_n, mj_q (.if_icmp .ge 16) 114 0 0 0 0, mj_n, mj_n, mj_o (.iload_n 2), mj_o (.aload_n 3), mj_o .arraylength, mj_q (.if_icmp .ge 10) 114 0 0 0 0, mj_n, mj_n, mj_o (.aload_n 3), mj_o (.iload_n 2), mj_o .iaload, mj_o .i2l, mj_q (.goto 4) 115 0 0 0 0, mj_n, mj_n, mj_o (.lconst 0), mj_o (.lstore 8), mj_n, mj_o (.lload 8), mj_n, mj_q (.ldc2_w 35) 1000000000 0 0 1014 0]
def mj_l32_1 : List (Option mj_I) := [mj_n, mj_n, mj_o .lmul, mj_o (.aload_n 3), mj_o (.iload_n 2), mj_o (.iconst 1), mj_o .isub, mj_o .iaload, mj_o .i2l, mj_o .ladd, mj_o (.lstore 10), mj_n, mj_o (.aload_n 0), mj_q (.getfield 30) 2 1 0 241 0, mj_n, mj_n, mj_o (.iconst 1), mj_q (.if_icmp .le 17) 154 0 0 0 0, mj_n, mj_n, mj_o (.iload_n 2), mj_o (.iconst 1), mj_q (.if_icmp .le 12) 154 0 0 0 0, mj_n, mj_n, mj_o (.aload_n 3), mj_o (.iload_n 2), mj_o (.iconst 2), mj_o .isub, mj_o .iaload, mj_o .i2l, mj_q (.goto 4) 155 0 0 0 0, mj_n, mj_n, mj_o (.lconst 0), mj_o (.lstore 12), mj_n, mj_o (.lload 10), mj_n, mj_o (.lload 4), mj_n, mj_o .ldiv, mj_o (.lstore 14), mj_n, mj_o (.lload 10), mj_n, mj_o (.lload 4), mj_n, mj_o .lrem, mj_o (.lstore 16), mj_n, mj_o (.iconst 0), mj_o (.istore 18), mj_n, mj_o (.iload 18), mj_n, mj_o (.iconst 2), mj_q (.if_icmp .ge 58) 235 0 0 0 0, mj_n, mj_n, mj_o (.lload 16), mj_n, mj_q (.ldc2_w 35) 1000000000 0 0 1014 0, mj_n, mj_n, mj_o .lcmp, mj_q (.ifCond .ge 49) 235 0 0 0 0, mj_n, mj_n, mj_o (.lload 14), mj_n, mj_q (.ldc2_w 35) 1000000000 0 0 1014 0, mj_n, mj_n, mj_o .lcmp, mj_q (.ifCond .ge 21) 216 0 0 0 0, mj_n, mj_n, mj_o (.lload 14), mj_n, mj_o (.lload 6), mj_n, mj_o .lmul, mj_o (.lload 16), mj_n, mj_q (.ldc2_w 35) 1000000000 0 0 1014 0, mj_n, mj_n, mj_o .lmul, mj_o (.lload 12), mj_n, mj_o .ladd, mj_o .lcmp, mj_q (.ifCond .le 16) 229 0 0 0 0, mj_n, mj_n, mj_o (.lload 14), mj_n, mj_o (.lconst 1), mj_o .lsub, mj_o (.lstore 14), mj_n, mj_o (.lload 16), mj_n, mj_o (.lload 4), mj_n, mj_o .ladd, mj_o (.lstore 16), mj_n, mj_o (.iinc 18 1), mj_n, mj_n, mj_q (.goto (-58)) 174 0 0 0 0, mj_n, mj_n, mj_o (.lload 14), mj_n, mj_o .lreturn]
def mj_l32 : List (Option mj_I) := mj_l32_0 ++ (mj_l32_1)
def mj_m32 : mj_M := (⟨"PolyRegisters$Divisor", "guess", "(LPolyRegisters$Wide;I)J"⟩, prog_4_method_4_code, 19, some FieldType.long, mj_look mj_l32, [], 1, 1027, 114, 1026, 23)
-- 33: PolyRegisters$Divisor.takeAway(LPolyRegisters$Wide;IJ)Z
def mj_l33_0 : List (Option mj_I) := [mj_o (.aload_n 1), mj_q (.getfield 17) 8 0 0 200 1, mj_n, mj_n, mj_o (.astore 5), mj_n, mj_o (.iload_n 2), mj_o (.aload_n 0), mj_q (.getfield 30) 2 1 0 241 0, mj_n, mj_n, mj_o .iadd, mj_o (.istore 6), mj_n, mj_o (.lconst 0), mj_o (.lstore 7), mj_n, mj_o (.iload_n 2), mj_o (.iconst 0), mj_q (.invokestatic 63) 0 0 2 1032 0, mj_n, mj_n, mj_o (.istore 9), mj_n, mj_o (.iload 9), mj_n, mj_o (.iload 6), mj_n, mj_q (.if_icmp .ge 95) 123 0 0 0 0, mj_n, mj_n, mj_o (.iload 9), mj_n, mj_o (.aload 5), mj_n, mj_o .arraylength, mj_q (.if_icmp .ge 87) 123 0 0 0 0, mj_n, mj_n, mj_o (.lload_n 3), mj_o (.aload_n 0), mj_q (.getfield 13) 2 0 0 240 0, mj_n, mj_n, mj_o (.iload 9), mj_n, mj_o (.iload_n 2), mj_o .isub, mj_o .iaload, mj_o .i2l, mj_o .lmul, mj_o (.lload 7), mj_n, mj_o .ladd, mj_o (.lstore 10), mj_n, mj_o (.aload 5), mj_n, mj_o (.iload 9), mj_n, mj_o .iaload, mj_o .i2l, mj_o (.lload 10), mj_n, mj_q (.ldc2_w 35) 1000000000 0 0 1014 0, mj_n, mj_n, mj_o .lrem, mj_o .lsub, mj_o (.lstore 12), mj_n, mj_o (.lload 10), mj_n, mj_q (.ldc2_w 35) 1000000000 0 0 1014 0, mj_n, mj_n, mj_o .ldiv, mj_o (.lload 12), mj_n, mj_o (.lconst 0), mj_o .lcmp, mj_q (.ifCond .ge 7) 88 0 0 0 0, mj_n, mj_n, mj_o (.iconst 1), mj_q (.goto 4) 89 0 0 0 0, mj_n, mj_n, mj_o (.iconst 0), mj_o .i2l, mj_o .ladd, mj_o (.lstore 7), mj_n, mj_o (.aload 5), mj_n, mj_o (.iload 9), mj_n, mj_o (.lload 12), mj_n, mj_o (.lconst 0), mj_o .lcmp, mj_q (.ifCond .ge 12) 113 0 0 0 0, mj_n, mj_n, mj_o (.lload 12), mj_n, mj_q (.ldc2_w 35) 1000000000 0 0 1014 0, mj_n, mj_n, mj_o .ladd, mj_q (.goto 5) 115 0 0 0 0, mj_n, mj_n, mj_o (.lload 12), mj_n, mj_o .l2i, mj_o .iastore, mj_o (.iinc 9 1), mj_n, mj_n]
def mj_l33_1 : List (Option mj_I) := [mj_q (.goto (-96)) 24 0 0 0 0, mj_n, mj_n, mj_o (.iload 6), mj_n, mj_q (.ifCond .lt 20) 145 0 0 0 0, mj_n, mj_n, mj_o (.iload 6), mj_n, mj_o (.aload_n 1), mj_q (.getfield 20) 8 1 0 202 1, mj_n, mj_n, mj_q (.if_icmp .ge 11) 145 0 0 0 0, mj_n, mj_n, mj_o (.iload 6), mj_n, mj_o (.aload 5), mj_n, mj_o .arraylength, mj_q (.if_icmp .lt 16) 158 0 0 0 0, mj_n, mj_n, mj_o (.lload 7), mj_n, mj_o (.lconst 0), mj_o .lcmp, mj_q (.ifCond .ne 7) 156 0 0 0 0, mj_n, mj_n, mj_o (.iconst 1), mj_q (.goto 4) 157 0 0 0 0, mj_n, mj_n, mj_o (.iconst 0), mj_o .ireturn, mj_o (.aload 5), mj_n, mj_o (.iload 6), mj_n, mj_o .iaload, mj_o .i2l, mj_o (.lload 7), mj_n, mj_o .lcmp, mj_q (.ifCond .lt 7) 174 0 0 0 0, mj_n, mj_n, mj_o (.iconst 1), mj_q (.goto 4) 175 0 0 0 0, mj_n, mj_n, mj_o (.iconst 0), mj_o (.istore 9), mj_n, mj_o (.aload 5), mj_n, mj_o (.iload 6), mj_n, mj_o (.iconst 0), mj_o .iastore, mj_o (.iload 9), mj_n, mj_o .ireturn]
def mj_l33 : List (Option mj_I) := mj_l33_0 ++ (mj_l33_1)
def mj_m33 : mj_M := (⟨"PolyRegisters$Divisor", "takeAway", "(LPolyRegisters$Wide;IJ)Z"⟩, prog_4_method_5_code, 14, some FieldType.boolean, mj_look mj_l33, [], 1, 1031, 114, 1030, 24)
-- 34: PolyRegisters$Divisor.putBack(LPolyRegisters$Wide;I)V
def mj_l34 : List (Option mj_I) := [mj_o (.aload_n 1), mj_q (.getfield 17) 8 0 0 200 1, mj_n, mj_n, mj_o (.astore_n 3), mj_o (.iconst 0), mj_o (.istore 4), mj_n, mj_o (.iload_n 2), mj_o (.iconst 0), mj_q (.invokestatic 63) 0 0 2 1032 0, mj_n, mj_n, mj_o (.istore 5), mj_n, mj_o (.iload 5), mj_n, mj_o (.iload_n 2), mj_o (.aload_n 0), mj_q (.getfield 30) 2 1 0 241 0, mj_n, mj_n, mj_o .iadd, mj_q (.if_icmp .ge 61) 84 0 0 0 0, mj_n, mj_n, mj_o (.iload 5), mj_n, mj_o (.aload_n 3), mj_o .arraylength, mj_q (.if_icmp .ge 54) 84 0 0 0 0, mj_n, mj_n, mj_o (.aload_n 3), mj_o (.iload 5), mj_n, mj_o .iaload, mj_o (.aload_n 0), mj_q (.getfield 13) 2 0 0 240 0, mj_n, mj_n, mj_o (.iload 5), mj_n, mj_o (.iload_n 2), mj_o .isub, mj_o .iaload, mj_o .iadd, mj_o (.iload 4), mj_n, mj_o .iadd, mj_o (.istore 6), mj_n, mj_o (.iload 6), mj_n, mj_q (.ldc 66) 1000000000 0 0 1037 0, mj_n, mj_q (.if_icmp .lt 7) 63 0 0 0 0, mj_n, mj_n, mj_o (.iconst 1), mj_q (.goto 4) 64 0 0 0 0, mj_n, mj_n, mj_o (.iconst 0), mj_o (.istore 4), mj_n, mj_o (.aload_n 3), mj_o (.iload 5), mj_n, mj_o (.iload 6), mj_n, mj_o (.iload 4), mj_n, mj_q (.ldc 66) 1000000000 0 0 1037 0, mj_n, mj_o .imul, mj_o .isub, mj_o .iastore, mj_o (.iinc 5 1), mj_n, mj_n, mj_q (.goto (-66)) 15 0 0 0 0, mj_n, mj_n, mj_o .return_]
def mj_m34 : mj_M := (⟨"PolyRegisters$Divisor", "putBack", "(LPolyRegisters$Wide;I)V"⟩, prog_4_method_6_code, 7, none, mj_look mj_l34, [], 1, 1036, 114, 1035, 25)
-- 35: PolyRegisters$Poly.<init>(III)V
def mj_l35 : List (Option mj_I) := [mj_o (.aload_n 0), mj_q (.invokespecial 3) 0 0 5 192 0, mj_n, mj_n, mj_o (.aload_n 0), mj_q (.new 9) 8 0 0 193 0, mj_n, mj_n, mj_o .dup, mj_o (.iconst 1), mj_q (.invokespecial 11) 85 2 0 195 0, mj_n, mj_n, mj_q (.putfield 14) 3 1 3 220 0, mj_n, mj_n, mj_o (.aload_n 0), mj_o (.iconst (-1)), mj_q (.putfield 20) 3 2 0 221 0, mj_n, mj_n, mj_o (.aload_n 0), mj_o (.iload_n 1), mj_q (.ifCond .le 7) 30 0 0 0 0, mj_n, mj_n, mj_o (.iload_n 1), mj_q (.goto 4) 31 0 0 0 0, mj_n, mj_n, mj_o (.iconst 1), mj_q (.anewarray 9) 5 0 0 193 218, mj_n, mj_n, mj_q (.putfield 24) 3 0 3 219 0, mj_n, mj_n, mj_o (.iconst 0), mj_o (.istore 4), mj_n, mj_o (.iload 4), mj_n, mj_o (.aload_n 0), mj_q (.getfield 24) 3 0 0 219 0, mj_n, mj_n, mj_o .arraylength, mj_q (.if_icmp .ge 29) 76 0 0 0 0, mj_n, mj_n, mj_o (.aload_n 0), mj_q (.getfield 24) 3 0 0 219 0, mj_n, mj_n, mj_o (.iload 4), mj_n, mj_q (.new 9) 8 0 0 193 0, mj_n, mj_n, mj_o .dup, mj_o (.iload_n 2), mj_o (.iload_n 3), mj_o (.iload 4), mj_n, mj_o .imul, mj_o .isub, mj_q (.invokespecial 11) 85 2 0 195 0, mj_n, mj_n, mj_o .aastore, mj_o (.iinc 4 1), mj_n, mj_n, mj_q (.goto (-33)) 40 0 0 0 0, mj_n, mj_n, mj_o .return_]
def mj_m35 : mj_M := (⟨"PolyRegisters$Poly", "<init>", "(III)V"⟩, prog_5_method_1_code, 5, none, mj_look mj_l35, [], 2, 191, 112, 190, 0)
-- 36: PolyRegisters$Poly.at(I)LPolyRegisters$Wide;
def mj_l36 : List (Option mj_I) := [mj_o (.iload_n 1), mj_q (.ifCond .lt 21) 22 0 0 0 0, mj_n, mj_n, mj_o (.iload_n 1), mj_o (.aload_n 0), mj_q (.getfield 24) 3 0 0 219 0, mj_n, mj_n, mj_o .arraylength, mj_q (.if_icmp .ge 12) 22 0 0 0 0, mj_n, mj_n, mj_o (.aload_n 0), mj_q (.getfield 24) 3 0 0 219 0, mj_n, mj_n, mj_o (.iload_n 1), mj_o .aaload, mj_q (.goto 7) 26 0 0 0 0, mj_n, mj_n, mj_o (.aload_n 0), mj_q (.getfield 14) 3 1 0 220 0, mj_n, mj_n, mj_o .areturn]
def mj_m36 : mj_M := (⟨"PolyRegisters$Poly", "at", "(I)LPolyRegisters$Wide;"⟩, prog_5_method_2_code, 2, some (FieldType.object "PolyRegisters$Wide"), mj_look mj_l36, [], 1, 589, 112, 587, 588)
-- 37: PolyRegisters$Poly.lead()LPolyRegisters$Wide;
def mj_l37 : List (Option mj_I) := [mj_o (.aload_n 0), mj_o (.aload_n 0), mj_q (.getfield 20) 3 2 0 221 0, mj_n, mj_n, mj_q (.invokevirtual 28) 36 2 0 698 3, mj_n, mj_n, mj_o .areturn]
def mj_m37 : mj_M := (⟨"PolyRegisters$Poly", "lead", "()LPolyRegisters$Wide;"⟩, prog_5_method_3_code, 1, some (FieldType.object "PolyRegisters$Wide"), mj_look mj_l37, [], 1, 961, 112, 959, 960)
-- 38: PolyRegisters$Poly.highest()I
def mj_l38 : List (Option mj_I) := [mj_o (.aload_n 0), mj_q (.getfield 24) 3 0 0 219 0, mj_n, mj_n, mj_o .arraylength, mj_o (.iconst 1), mj_o .isub, mj_o .ireturn]
def mj_m38 : mj_M := (⟨"PolyRegisters$Poly", "highest", "()I"⟩, prog_5_method_4_code, 1, some FieldType.int, mj_look mj_l38, [], 1, 585, 112, 583, 584)
-- 39: PolyRegisters$Poly.clear()V
def mj_l39 : List (Option mj_I) := [mj_o (.iconst 0), mj_o (.istore_n 1), mj_o (.iload_n 1), mj_o (.aload_n 0), mj_q (.getfield 24) 3 0 0 219 0, mj_n, mj_n, mj_o .arraylength, mj_q (.if_icmp .ge 19) 27 0 0 0 0, mj_n, mj_n, mj_o (.aload_n 0), mj_q (.getfield 24) 3 0 0 219 0, mj_n, mj_n, mj_o (.iload_n 1), mj_o .aaload, mj_o (.lconst 0), mj_q (.invokevirtual 32) 86 2 0 569 8, mj_n, mj_n, mj_o (.iinc 1 1), mj_n, mj_n, mj_q (.goto (-22)) 2 0 0 0 0, mj_n, mj_n, mj_o (.aload_n 0), mj_o (.iconst (-1)), mj_q (.putfield 20) 3 2 0 221 0, mj_n, mj_n, mj_o .return_]
def mj_m39 : mj_M := (⟨"PolyRegisters$Poly", "clear", "()V"⟩, prog_5_method_5_code, 2, none, mj_look mj_l39, [], 1, 581, 112, 579, 580)
-- 40: PolyRegisters$Poly.load([JJ)V
def mj_l40 : List (Option mj_I) := [mj_o (.iconst 0), mj_o (.istore 4), mj_n, mj_o (.iload 4), mj_n, mj_o (.aload_n 0), mj_q (.getfield 24) 3 0 0 219 0, mj_n, mj_n, mj_o .arraylength, mj_q (.if_icmp .ge 42) 52 0 0 0 0, mj_n, mj_n, mj_o (.aload_n 0), mj_q (.getfield 24) 3 0 0 219 0, mj_n, mj_n, mj_o (.iload 4), mj_n, mj_o .aaload, mj_o (.iload 4), mj_n, mj_o (.aload_n 1), mj_o .arraylength, mj_q (.if_icmp .ge 18) 42 0 0 0 0, mj_n, mj_n, mj_o (.lload_n 2), mj_o (.lconst 0), mj_o .lcmp, mj_q (.ifCond .eq 12) 42 0 0 0 0, mj_n, mj_n, mj_o (.aload_n 1), mj_o (.iload 4), mj_n, mj_o .laload, mj_o (.lload_n 2), mj_o .ldiv, mj_q (.goto 4) 43 0 0 0 0, mj_n, mj_n, mj_o (.lconst 0), mj_q (.invokevirtual 32) 86 2 0 569 8, mj_n, mj_n, mj_o (.iinc 4 1), mj_n, mj_n, mj_q (.goto (-46)) 3 0 0 0 0, mj_n, mj_n, mj_o (.aload_n 0), mj_q (.invokevirtual 36) 42 1 0 570 3, mj_n, mj_n, mj_o .return_]
def mj_m40 : mj_M := (⟨"PolyRegisters$Poly", "load", "([JJ)V"⟩, prog_5_method_6_code, 5, none, mj_look mj_l40, [], 1, 568, 112, 566, 567)
-- 41: PolyRegisters$Poly.set(LPolyRegisters$Poly;)V
def mj_l41 : List (Option mj_I) := [mj_o (.iconst 0), mj_o (.istore_n 2), mj_o (.iload_n 2), mj_o (.aload_n 0), mj_q (.getfield 24) 3 0 0 219 0, mj_n, mj_n, mj_o .arraylength, mj_q (.if_icmp .ge 23) 31 0 0 0 0, mj_n, mj_n, mj_o (.aload_n 0), mj_q (.getfield 24) 3 0 0 219 0, mj_n, mj_n, mj_o (.iload_n 2), mj_o .aaload, mj_o (.aload_n 1), mj_o (.iload_n 2), mj_q (.invokevirtual 28) 36 2 0 698 3, mj_n, mj_n, mj_q (.invokevirtual 39) 87 2 0 699 8, mj_n, mj_n, mj_o (.iinc 2 1), mj_n, mj_n, mj_q (.goto (-26)) 2 0 0 0 0, mj_n, mj_n, mj_o (.aload_n 0), mj_q (.invokevirtual 36) 42 1 0 570 3, mj_n, mj_n, mj_o .return_]
def mj_m41 : mj_M := (⟨"PolyRegisters$Poly", "set", "(LPolyRegisters$Poly;)V"⟩, prog_5_method_7_code, 3, none, mj_look mj_l41, [], 1, 697, 112, 695, 696)
-- 42: PolyRegisters$Poly.settle()V
def mj_l42 : List (Option mj_I) := [mj_o (.aload_n 0), mj_o (.iconst (-1)), mj_q (.putfield 20) 3 2 0 221 0, mj_n, mj_n, mj_o (.iconst 0), mj_o (.istore_n 1), mj_o (.iload_n 1), mj_o (.aload_n 0), mj_q (.getfield 24) 3 0 0 219 0, mj_n, mj_n, mj_o .arraylength, mj_q (.if_icmp .ge 33) 46 0 0 0 0, mj_n, mj_n, mj_o (.aload_n 0), mj_o (.aload_n 0), mj_q (.getfield 24) 3 0 0 219 0, mj_n, mj_n, mj_o (.iload_n 1), mj_o .aaload, mj_q (.getfield 43) 8 2 0 209 1, mj_n, mj_n, mj_q (.ifCond .eq 7) 33 0 0 0 0, mj_n, mj_n, mj_o (.iload_n 1), mj_q (.goto 7) 37 0 0 0 0, mj_n, mj_n, mj_o (.aload_n 0), mj_q (.getfield 20) 3 2 0 221 0, mj_n, mj_n, mj_q (.putfield 20) 3 2 0 221 0, mj_n, mj_n, mj_o (.iinc 1 1), mj_n, mj_n, mj_q (.goto (-36)) 7 0 0 0 0, mj_n, mj_n, mj_o .return_]
def mj_m42 : mj_M := (⟨"PolyRegisters$Poly", "settle", "()V"⟩, prog_5_method_8_code, 2, none, mj_look mj_l42, [], 1, 573, 112, 571, 572)
-- 43: PolyRegisters$Poly.negate()V
def mj_l43 : List (Option mj_I) := [mj_o (.iconst 0), mj_o (.istore_n 1), mj_o (.iload_n 1), mj_o (.aload_n 0), mj_q (.getfield 24) 3 0 0 219 0, mj_n, mj_n, mj_o .arraylength, mj_q (.if_icmp .ge 28) 36 0 0 0 0, mj_n, mj_n, mj_o (.aload_n 0), mj_q (.getfield 24) 3 0 0 219 0, mj_n, mj_n, mj_o (.iload_n 1), mj_o .aaload, mj_o (.aload_n 0), mj_q (.getfield 24) 3 0 0 219 0, mj_n, mj_n, mj_o (.iload_n 1), mj_o .aaload, mj_q (.getfield 43) 8 2 0 209 1, mj_n, mj_n, mj_o .ineg, mj_q (.putfield 43) 8 2 0 209 1, mj_n, mj_n, mj_o (.iinc 1 1), mj_n, mj_n, mj_q (.goto (-31)) 2 0 0 0 0, mj_n, mj_n, mj_o .return_]
def mj_m43 : mj_M := (⟨"PolyRegisters$Poly", "negate", "()V"⟩, prog_5_method_9_code, 2, none, mj_look mj_l43, [], 1, 1050, 112, 1048, 1049)
-- 44: PolyRegisters$Poly.store([J)Z
def mj_l44 : List (Option mj_I) := [mj_o (.iconst 0), mj_o (.istore_n 2), mj_o (.iload_n 2), mj_o (.aload_n 0), mj_q (.getfield 24) 3 0 0 219 0, mj_n, mj_n, mj_o .arraylength, mj_q (.if_icmp .ge 34) 42 0 0 0 0, mj_n, mj_n, mj_o (.aload_n 0), mj_q (.getfield 24) 3 0 0 219 0, mj_n, mj_n, mj_o (.iload_n 2), mj_o .aaload, mj_q (.getfield 46) 8 1 0 203 1, mj_n, mj_n, mj_o (.iload_n 2), mj_o (.bipush 12), mj_n, mj_q (.if_icmp .gt 7) 30 0 0 0 0, mj_n, mj_n, mj_o (.iconst 2), mj_q (.goto 4) 31 0 0 0 0, mj_n, mj_n, mj_o (.iconst 0), mj_q (.if_icmp .le 5) 36 0 0 0 0, mj_n, mj_n, mj_o (.iconst 0), mj_o .ireturn, mj_o (.iinc 2 1), mj_n, mj_n, mj_q (.goto (-37)) 2 0 0 0 0, mj_n, mj_n, mj_o (.iconst 0), mj_o (.istore_n 2), mj_o (.iload_n 2), mj_o (.aload_n 1), mj_o .arraylength, mj_q (.if_icmp .ge 20) 67 0 0 0 0, mj_n, mj_n, mj_o (.aload_n 1), mj_o (.iload_n 2), mj_o (.aload_n 0), mj_o (.iload_n 2), mj_q (.invokevirtual 28) 36 2 0 698 3, mj_n, mj_n, mj_q (.invokevirtual 49) 100 1 0 704 8, mj_n, mj_n, mj_o .lastore, mj_o (.iinc 2 1), mj_n, mj_n, mj_q (.goto (-20)) 44 0 0 0 0, mj_n, mj_n, mj_o (.iconst 1), mj_o .ireturn]
def mj_m44 : mj_M := (⟨"PolyRegisters$Poly", "store", "([J)Z"⟩, prog_5_method_10_code, 3, some FieldType.boolean, mj_look mj_l44, [], 1, 703, 112, 701, 702)
-- 45: PolyRegisters$Reader.<init>(LPolyRegisters$Desk;LPolyRegisters$Text;)V
def mj_l45 : List (Option mj_I) := [mj_o (.aload_n 0), mj_q (.invokespecial 3) 0 0 5 378 0, mj_n, mj_n, mj_o (.aload_n 0), mj_o (.iconst (-1)), mj_q (.putfield 9) 4 3 0 383 0, mj_n, mj_n, mj_o (.aload_n 0), mj_o (.bipush 9), mj_n, mj_o (.bipush 13), mj_n, mj_q (.multianewarray 15 2) 0 162 0 379 146, mj_n, mj_n, mj_n, mj_q (.putfield 17) 4 5 3 387 0, mj_n, mj_n, mj_o (.aload_n 0), mj_o (.bipush 9), mj_n, mj_o (.bipush 13), mj_n, mj_q (.multianewarray 15 2) 0 162 0 379 146, mj_n, mj_n, mj_n, mj_q (.putfield 20) 4 6 3 388 0, mj_n, mj_n, mj_o (.aload_n 0), mj_o (.bipush 13), mj_n, mj_q (.newarray .long) 1 0 0 162 0, mj_n, mj_q (.putfield 23) 4 7 3 389 0, mj_n, mj_n, mj_o (.aload_n 0), mj_o (.aload_n 1), mj_q (.putfield 27) 4 0 3 380 0, mj_n, mj_n, mj_o (.aload_n 0), mj_o (.aload_n 2), mj_q (.putfield 31) 4 1 3 381 0, mj_n, mj_n, mj_o .return_]
def mj_m45 : mj_M := (⟨"PolyRegisters$Reader", "<init>", "(LPolyRegisters$Desk;LPolyRegisters$Text;)V"⟩, prog_6_method_1_code, 3, none, mj_look mj_l45, [], 2, 377, 117, 376, 0)
-- 46: PolyRegisters$Reader.accepts(LPolyRegisters$Text;)Z
def mj_l46 : List (Option mj_I) := [mj_o (.aload_n 0), mj_o (.aload_n 1), mj_q (.putfield 31) 4 1 3 381 0, mj_n, mj_n, mj_o (.aload_n 0), mj_o (.iconst 0), mj_q (.putfield 35) 4 2 0 382 0, mj_n, mj_n, mj_o (.aload_n 0), mj_o (.iconst (-1)), mj_q (.putfield 9) 4 3 0 383 0, mj_n, mj_n, mj_o (.aload_n 0), mj_o (.iconst 0), mj_q (.putfield 38) 4 4 2 385 0, mj_n, mj_n, mj_o (.aload_n 0), mj_o (.iconst 0), mj_q (.invokevirtual 42) 49 2 0 644 4, mj_n, mj_n, mj_o (.aload_n 0), mj_q (.getfield 9) 4 3 0 383 0, mj_n, mj_n, mj_o (.iconst (-1)), mj_q (.if_icmp .ne 25) 55 0 0 0 0, mj_n, mj_n, mj_o (.aload_n 0), mj_q (.getfield 35) 4 2 0 382 0, mj_n, mj_n, mj_o (.aload_n 0), mj_q (.getfield 31) 4 1 0 381 0, mj_n, mj_n, mj_q (.getfield 46) 7 1 0 173 0, mj_n, mj_n, mj_q (.if_icmp .ge 11) 55 0 0 0 0, mj_n, mj_n, mj_o (.aload_n 0), mj_o (.aload_n 0), mj_q (.getfield 35) 4 2 0 382 0, mj_n, mj_n, mj_q (.putfield 9) 4 3 0 383 0, mj_n, mj_n, mj_o (.aload_n 0), mj_q (.getfield 9) 4 3 0 383 0, mj_n, mj_n, mj_o (.iconst (-1)), mj_q (.if_icmp .ne 7) 67 0 0 0 0, mj_n, mj_n, mj_o (.iconst 1), mj_q (.goto 4) 68 0 0 0 0, mj_n, mj_n, mj_o (.iconst 0), mj_o .ireturn]
def mj_m46 : mj_M := (⟨"PolyRegisters$Reader", "accepts", "(LPolyRegisters$Text;)Z"⟩, prog_6_method_2_code, 2, some FieldType.boolean, mj_look mj_l46, [], 1, 643, 117, 641, 642)
-- 47: PolyRegisters$Reader.answer()[J
def mj_l47 : List (Option mj_I) := [mj_o (.aload_n 0), mj_q (.getfield 17) 4 5 0 387 0, mj_n, mj_n, mj_o (.iconst 0), mj_o .aaload, mj_o .areturn]
def mj_m47 : mj_M := (⟨"PolyRegisters$Reader", "answer", "()[J"⟩, prog_6_method_3_code, 1, some (FieldType.array FieldType.long), mj_look mj_l47, [], 1, 724, 117, 722, 723)
-- 48: PolyRegisters$Reader.rowAt([[JI)[J
def mj_l48 : List (Option mj_I) := [mj_o (.aload_n 0), mj_o (.iload_n 1), mj_q (.ifCond .lt 13) 15 0 0 0 0, mj_n, mj_n, mj_o (.iload_n 1), mj_o (.aload_n 0), mj_o .arraylength, mj_q (.if_icmp .ge 7) 15 0 0 0 0, mj_n, mj_n, mj_o (.iload_n 1), mj_q (.goto 4) 16 0 0 0 0, mj_n, mj_n, mj_o (.iconst 0), mj_o .aaload, mj_o .areturn]
def mj_m48 : mj_M := (⟨"PolyRegisters$Reader", "rowAt", "([[JI)[J"⟩, prog_6_method_4_code, 2, some (FieldType.array FieldType.long), mj_look mj_l48, [], 0, 650, 117, 649, 0)
-- 49: PolyRegisters$Reader.readSum(I)V
def mj_l49 : List (Option mj_I) := [mj_o (.aload_n 0), mj_q (.getfield 17) 4 5 0 387 0, mj_n, mj_n, mj_o (.iload_n 1), mj_q (.invokestatic 51) 48 2 0 648 0, mj_n, mj_n, mj_o (.astore_n 2), mj_o (.aload_n 2), mj_q (.invokestatic 55) 165 1 1 651 0, mj_n, mj_n, mj_o (.aload_n 0), mj_o (.bipush 45), mj_n, mj_q (.invokevirtual 59) 57 2 0 654 4, mj_n, mj_n, mj_q (.ifCond .eq 7) 26 0 0 0 0, mj_n, mj_n, mj_o (.iconst (-1)), mj_q (.goto 4) 27 0 0 0 0, mj_n, mj_n, mj_o (.iconst 1), mj_o (.istore_n 3), mj_o (.iconst 0), mj_o (.istore 4), mj_n, mj_o (.iload 4), mj_n, mj_o (.aload_n 0), mj_q (.getfield 31) 4 1 0 381 0, mj_n, mj_n, mj_q (.getfield 46) 7 1 0 173 0, mj_n, mj_n, mj_q (.if_icmp .gt 76) 116 0 0 0 0, mj_n, mj_n, mj_o (.aload_n 0), mj_o (.iload_n 1), mj_q (.invokevirtual 63) 50 2 0 666 4, mj_n, mj_n, mj_o (.aload_n 0), mj_q (.getfield 9) 4 3 0 383 0, mj_n, mj_n, mj_o (.iconst (-1)), mj_q (.if_icmp .eq 4) 57 0 0 0 0, mj_n, mj_n, mj_o .return_, mj_o (.aload_n 0), mj_o (.aload_n 2), mj_o (.aload_n 0), mj_q (.getfield 20) 4 6 0 388 0, mj_n, mj_n, mj_o (.iload_n 1), mj_q (.invokestatic 51) 48 2 0 648 0, mj_n, mj_n, mj_o (.iload_n 3), mj_o (.aload_n 2), mj_q (.invokestatic 66) 167 4 1 713 0, mj_n, mj_n, mj_o (.aload_n 2), mj_q (.invokevirtual 70) 51 3 0 705 4, mj_n, mj_n, mj_o (.aload_n 0), mj_o (.bipush 43), mj_n, mj_q (.invokevirtual 59) 57 2 0 654 4, mj_n, mj_n, mj_o (.istore 5), mj_n, mj_o (.iload 5), mj_n, mj_q (.ifCond .ne 13) 99 0 0 0 0, mj_n, mj_n, mj_o (.aload_n 0), mj_o (.bipush 45), mj_n, mj_q (.invokevirtual 59) 57 2 0 654 4, mj_n, mj_n, mj_q (.ifCond .ne 4) 99 0 0 0 0, mj_n, mj_n, mj_o .return_, mj_o (.iload 5), mj_n, mj_q (.ifCond .eq 7) 108 0 0 0 0, mj_n, mj_n, mj_o (.iconst 1), mj_q (.goto 4) 109 0 0 0 0, mj_n, mj_n, mj_o (.iconst (-1)), mj_o (.istore_n 3), mj_o (.iinc 4 1), mj_n, mj_n, mj_q (.goto (-82)) 31 0 0 0 0, mj_n, mj_n, mj_o .return_]
def mj_m49 : mj_M := (⟨"PolyRegisters$Reader", "readSum", "(I)V"⟩, prog_6_method_5_code, 6, none, mj_look mj_l49, [], 1, 647, 117, 646, 11)
-- 50: PolyRegisters$Reader.readProduct(I)V
def mj_l50 : List (Option mj_I) := [mj_o (.aload_n 0), mj_q (.getfield 20) 4 6 0 388 0, mj_n, mj_n, mj_o (.iload_n 1), mj_q (.invokestatic 51) 48 2 0 648 0, mj_n, mj_n, mj_o (.astore_n 2), mj_o (.aload_n 2), mj_q (.invokestatic 55) 165 1 1 651 0, mj_n, mj_n, mj_o (.aload_n 2), mj_o (.iconst 0), mj_o (.lconst 1), mj_o .lastore, mj_o (.iconst 0), mj_o (.istore_n 3), mj_o (.iload_n 3), mj_o (.aload_n 0), mj_q (.getfield 31) 4 1 0 381 0, mj_n, mj_n, mj_q (.getfield 46) 7 1 0 173 0, mj_n, mj_n, mj_q (.if_icmp .gt 84) 111 0 0 0 0, mj_n, mj_n, mj_o (.aload_n 0), mj_o (.iload_n 1), mj_q (.invokevirtual 74) 52 2 0 670 4, mj_n, mj_n, mj_o (.istore 4), mj_n, mj_o (.aload_n 0), mj_q (.getfield 9) 4 3 0 383 0, mj_n, mj_n, mj_o (.iconst (-1)), mj_q (.if_icmp .eq 4) 46 0 0 0 0, mj_n, mj_n, mj_o .return_, mj_o (.iload 4), mj_n, mj_o (.iconst (-1)), mj_q (.if_icmp .eq 28) 77 0 0 0 0, mj_n, mj_n, mj_o (.aload_n 0), mj_o (.aload_n 0), mj_q (.getfield 27) 4 0 0 380 0, mj_n, mj_n, mj_o (.aload_n 0), mj_q (.getfield 23) 4 7 0 389 0, mj_n, mj_n, mj_o (.iload 4), mj_n, mj_o (.aload_n 0), mj_q (.getfield 23) 4 7 0 389 0, mj_n, mj_n, mj_q (.invokevirtual 78) 12 4 0 689 1, mj_n, mj_n, mj_o (.aload_n 0), mj_q (.getfield 23) 4 7 0 389 0, mj_n, mj_n, mj_q (.invokevirtual 70) 51 3 0 705 4, mj_n, mj_n, mj_o (.aload_n 0), mj_o (.aload_n 0), mj_q (.getfield 27) 4 0 0 380 0, mj_n, mj_n, mj_o (.aload_n 2), mj_o (.aload_n 0), mj_q (.getfield 23) 4 7 0 389 0, mj_n, mj_n, mj_o (.aload_n 2), mj_q (.invokevirtual 84) 11 4 0 709 1, mj_n, mj_n, mj_o (.aload_n 2), mj_q (.invokevirtual 70) 51 3 0 705 4, mj_n, mj_n, mj_o (.aload_n 0), mj_o (.bipush 42), mj_n, mj_q (.invokevirtual 59) 57 2 0 654 4, mj_n, mj_n, mj_q (.ifCond .ne 4) 105 0 0 0 0, mj_n, mj_n, mj_o .return_, mj_o (.iinc 3 1), mj_n, mj_n, mj_q (.goto (-89)) 19 0 0 0 0, mj_n, mj_n, mj_o .return_]
def mj_m50 : mj_M := (⟨"PolyRegisters$Reader", "readProduct", "(I)V"⟩, prog_6_method_6_code, 5, none, mj_look mj_l50, [], 1, 669, 117, 668, 14)
-- 51: PolyRegisters$Reader.check(Z[J)V
def mj_l51 : List (Option mj_I) := [mj_o (.iload_n 1), mj_q (.ifCond .ne 12) 13 0 0 0 0, mj_n, mj_n, mj_o (.aload_n 0), mj_o (.iconst 1), mj_q (.putfield 38) 4 4 2 385 0, mj_n, mj_n, mj_o (.aload_n 2), mj_q (.invokestatic 55) 165 1 1 651 0, mj_n, mj_n, mj_o .return_]
def mj_m51 : mj_M := (⟨"PolyRegisters$Reader", "check", "(Z[J)V"⟩, prog_6_method_7_code, 3, none, mj_look mj_l51, [], 1, 708, 117, 707, 18)
-- 52: PolyRegisters$Reader.readFactor(I)I
def mj_l52_0 : List (Option mj_I) := [mj_o (.aload_n 0), mj_q (.getfield 23) 4 7 0 389 0, mj_n, mj_n, mj_q (.invokestatic 55) 165 1 1 651 0, mj_n, mj_n, mj_o (.aload_n 0), mj_q (.invokevirtual 88) 56 1 0 658 4, mj_n, mj_n, mj_o (.aload_n 0), mj_q (.getfield 31) 4 1 0 381 0, mj_n, mj_n, mj_o (.aload_n 0), mj_q (.getfield 35) 4 2 0 382 0, mj_n, mj_n, mj_q (.invokevirtual 91) 79 2 0 662 7, mj_n, mj_n, mj_q (.invokestatic 94) 55 1 0 674 0, mj_n, mj_n, mj_q (.ifCond .eq 16) 41 0 0 0 0, mj_n, mj_n, mj_o (.aload_n 0), mj_q (.getfield 23) 4 7 0 389 0, mj_n, mj_n, mj_o (.iconst 0), mj_o (.aload_n 0), mj_q (.invokevirtual 98) 54 1 0 677 4, mj_n, mj_n, mj_o .lastore, mj_q (.goto 97) 135 0 0 0 0, mj_n, mj_n, mj_o (.aload_n 0), mj_o (.bipush 120), mj_n, mj_q (.invokevirtual 59) 57 2 0 654 4, mj_n, mj_n, mj_q (.ifCond .eq 13) 60 0 0 0 0, mj_n, mj_n, mj_o (.aload_n 0), mj_q (.getfield 23) 4 7 0 389 0, mj_n, mj_n, mj_o (.iconst 1), mj_o (.lconst 1), mj_o .lastore, mj_q (.goto 78) 135 0 0 0 0, mj_n, mj_n, mj_o (.iload_n 1), mj_o (.bipush 8), mj_n, mj_q (.if_icmp .ge 64) 127 0 0 0 0, mj_n, mj_n, mj_o (.aload_n 0), mj_o (.bipush 40), mj_n, mj_q (.invokevirtual 59) 57 2 0 654 4, mj_n, mj_n, mj_q (.ifCond .eq 55) 127 0 0 0 0, mj_n, mj_n, mj_o (.aload_n 0), mj_o (.iload_n 1), mj_o (.iconst 1), mj_o .iadd, mj_q (.invokevirtual 42) 49 2 0 644 4, mj_n, mj_n, mj_o (.aload_n 0), mj_q (.getfield 9) 4 3 0 383 0, mj_n, mj_n, mj_o (.iconst (-1)), mj_q (.if_icmp .ne 20) 107 0 0 0 0, mj_n, mj_n, mj_o (.aload_n 0), mj_o (.bipush 41), mj_n, mj_q (.invokevirtual 59) 57 2 0 654 4, mj_n, mj_n, mj_q (.ifCond .ne 11) 107 0 0 0 0, mj_n, mj_n, mj_o (.aload_n 0), mj_o (.aload_n 0), mj_q (.getfield 35) 4 2 0 382 0, mj_n, mj_n, mj_q (.putfield 9) 4 3 0 383 0, mj_n, mj_n, mj_o (.aload_n 0), mj_q (.getfield 17) 4 5 0 387 0, mj_n, mj_n, mj_o (.iload_n 1), mj_o (.iconst 1), mj_o .iadd, mj_q (.invokestatic 51) 48 2 0 648 0, mj_n, mj_n, mj_o (.aload_n 0), mj_q (.getfield 23) 4 7 0 389 0, mj_n]
def mj_l52_1 : List (Option mj_I) := [mj_n, mj_q (.invokestatic 102) 164 2 1 683 0, mj_n, mj_n, mj_q (.goto 11) 135 0 0 0 0, mj_n, mj_n, mj_o (.aload_n 0), mj_o (.aload_n 0), mj_q (.getfield 35) 4 2 0 382 0, mj_n, mj_n, mj_q (.putfield 9) 4 3 0 383 0, mj_n, mj_n, mj_o (.aload_n 0), mj_q (.getfield 9) 4 3 0 383 0, mj_n, mj_n, mj_o (.iconst (-1)), mj_q (.if_icmp .ne 19) 159 0 0 0 0, mj_n, mj_n, mj_o (.aload_n 0), mj_o (.bipush 94), mj_n, mj_q (.invokevirtual 59) 57 2 0 654 4, mj_n, mj_n, mj_q (.ifCond .eq 10) 159 0 0 0 0, mj_n, mj_n, mj_o (.aload_n 0), mj_q (.invokevirtual 106) 53 1 0 684 4, mj_n, mj_n, mj_q (.goto 4) 160 0 0 0 0, mj_n, mj_n, mj_o (.iconst (-1)), mj_o .ireturn]
def mj_l52 : List (Option mj_I) := mj_l52_0 ++ (mj_l52_1)
def mj_m52 : mj_M := (⟨"PolyRegisters$Reader", "readFactor", "(I)I"⟩, prog_6_method_8_code, 2, some FieldType.int, mj_look mj_l52, [], 1, 673, 117, 672, 15)
-- 53: PolyRegisters$Reader.readExponent()I
def mj_l53 : List (Option mj_I) := [mj_o (.aload_n 0), mj_q (.invokevirtual 88) 56 1 0 658 4, mj_n, mj_n, mj_o (.aload_n 0), mj_q (.getfield 35) 4 2 0 382 0, mj_n, mj_n, mj_o (.istore_n 1), mj_o (.aload_n 0), mj_q (.getfield 31) 4 1 0 381 0, mj_n, mj_n, mj_o (.aload_n 0), mj_q (.getfield 35) 4 2 0 382 0, mj_n, mj_n, mj_q (.invokevirtual 91) 79 2 0 662 7, mj_n, mj_n, mj_q (.invokestatic 94) 55 1 0 674 0, mj_n, mj_n, mj_q (.ifCond .ne 13) 36 0 0 0 0, mj_n, mj_n, mj_o (.aload_n 0), mj_o (.aload_n 0), mj_q (.getfield 35) 4 2 0 382 0, mj_n, mj_n, mj_q (.putfield 9) 4 3 0 383 0, mj_n, mj_n, mj_o (.iconst (-1)), mj_o .ireturn, mj_o (.aload_n 0), mj_q (.invokevirtual 98) 54 1 0 677 4, mj_n, mj_n, mj_o (.lstore_n 2), mj_o (.lload_n 2), mj_q (.ldc2_w 110) 12 0 0 688 0, mj_n, mj_n, mj_o .lcmp, mj_q (.ifCond .le 10) 56 0 0 0 0, mj_n, mj_n, mj_o (.aload_n 0), mj_o (.iload_n 1), mj_q (.putfield 9) 4 3 0 383 0, mj_n, mj_n, mj_o (.iconst (-1)), mj_o .ireturn, mj_o (.lload_n 2), mj_o .l2i, mj_o .ireturn]
def mj_m53 : mj_M := (⟨"PolyRegisters$Reader", "readExponent", "()I"⟩, prog_6_method_9_code, 4, some FieldType.int, mj_look mj_l53, [], 1, 687, 117, 686, 17)
-- 54: PolyRegisters$Reader.readNumber()J
def mj_l54 : List (Option mj_I) := [mj_o (.aload_n 0), mj_q (.getfield 35) 4 2 0 382 0, mj_n, mj_n, mj_o (.istore_n 1), mj_o (.lconst 0), mj_o (.lstore_n 2), mj_o (.iconst 0), mj_o (.istore 4), mj_n, mj_o (.iload 4), mj_n, mj_o (.aload_n 0), mj_q (.getfield 31) 4 1 0 381 0, mj_n, mj_n, mj_q (.getfield 46) 7 1 0 173 0, mj_n, mj_n, mj_q (.if_icmp .ge 59) 78 0 0 0 0, mj_n, mj_n, mj_o (.aload_n 0), mj_q (.getfield 31) 4 1 0 381 0, mj_n, mj_n, mj_o (.aload_n 0), mj_q (.getfield 35) 4 2 0 382 0, mj_n, mj_n, mj_q (.invokevirtual 91) 79 2 0 662 7, mj_n, mj_n, mj_q (.invokestatic 94) 55 1 0 674 0, mj_n, mj_n, mj_q (.ifCond .eq 42) 78 0 0 0 0, mj_n, mj_n, mj_o (.lload_n 2), mj_q (.ldc2_w 112) 10 0 0 681 0, mj_n, mj_n, mj_o .lmul, mj_o (.aload_n 0), mj_q (.getfield 31) 4 1 0 381 0, mj_n, mj_n, mj_o (.aload_n 0), mj_q (.getfield 35) 4 2 0 382 0, mj_n, mj_n, mj_q (.invokevirtual 91) 79 2 0 662 7, mj_n, mj_n, mj_o .i2l, mj_o .ladd, mj_q (.ldc2_w 114) 48 0 0 682 0, mj_n, mj_n, mj_o .lsub, mj_o (.lstore_n 2), mj_o (.aload_n 0), mj_o .dup, mj_q (.getfield 35) 4 2 0 382 0, mj_n, mj_n, mj_o (.iconst 1), mj_o .iadd, mj_q (.putfield 35) 4 2 0 382 0, mj_n, mj_n, mj_o (.iinc 4 1), mj_n, mj_n, mj_q (.goto (-65)) 10 0 0 0 0, mj_n, mj_n, mj_o (.aload_n 0), mj_q (.getfield 35) 4 2 0 382 0, mj_n, mj_n, mj_o (.iload_n 1), mj_o .isub, mj_o (.bipush 18), mj_n, mj_q (.if_icmp .le 10) 96 0 0 0 0, mj_n, mj_n, mj_o (.aload_n 0), mj_o (.iload_n 1), mj_q (.putfield 9) 4 3 0 383 0, mj_n, mj_n, mj_o (.lconst 0), mj_o .lreturn, mj_o (.lload_n 2), mj_o .lreturn]
def mj_m54 : mj_M := (⟨"PolyRegisters$Reader", "readNumber", "()J"⟩, prog_6_method_10_code, 5, some FieldType.long, mj_look mj_l54, [], 1, 680, 117, 679, 16)
-- 55: PolyRegisters$Reader.isDigit(I)Z
def mj_l55 : List (Option mj_I) := [mj_o (.iload_n 0), mj_o (.bipush 48), mj_n, mj_q (.if_icmp .lt 13) 16 0 0 0 0, mj_n, mj_n, mj_o (.iload_n 0), mj_o (.bipush 57), mj_n, mj_q (.if_icmp .gt 7) 16 0 0 0 0, mj_n, mj_n, mj_o (.iconst 1), mj_q (.goto 4) 17 0 0 0 0, mj_n, mj_n, mj_o (.iconst 0), mj_o .ireturn]
def mj_m55 : mj_M := (⟨"PolyRegisters$Reader", "isDigit", "(I)Z"⟩, prog_6_method_11_code, 1, some FieldType.boolean, mj_look mj_l55, [], 0, 676, 117, 675, 0)
-- 56: PolyRegisters$Reader.skipBlanks()V
def mj_l56 : List (Option mj_I) := [mj_o (.iconst 0), mj_o (.istore_n 1), mj_o (.iload_n 1), mj_o (.aload_n 0), mj_q (.getfield 31) 4 1 0 381 0, mj_n, mj_n, mj_q (.getfield 46) 7 1 0 173 0, mj_n, mj_n, mj_q (.if_icmp .ge 35) 45 0 0 0 0, mj_n, mj_n, mj_o (.aload_n 0), mj_q (.getfield 31) 4 1 0 381 0, mj_n, mj_n, mj_o (.aload_n 0), mj_q (.getfield 35) 4 2 0 382 0, mj_n, mj_n, mj_q (.invokevirtual 91) 79 2 0 662 7, mj_n, mj_n, mj_o (.bipush 32), mj_n, mj_q (.if_icmp .ne 19) 45 0 0 0 0, mj_n, mj_n, mj_o (.aload_n 0), mj_o .dup, mj_q (.getfield 35) 4 2 0 382 0, mj_n, mj_n, mj_o (.iconst 1), mj_o .iadd, mj_q (.putfield 35) 4 2 0 382 0, mj_n, mj_n, mj_o (.iinc 1 1), mj_n, mj_n, mj_q (.goto (-40)) 2 0 0 0 0, mj_n, mj_n, mj_o .return_]
def mj_m56 : mj_M := (⟨"PolyRegisters$Reader", "skipBlanks", "()V"⟩, prog_6_method_12_code, 2, none, mj_look mj_l56, [], 1, 661, 117, 660, 13)
-- 57: PolyRegisters$Reader.takes(C)Z
def mj_l57 : List (Option mj_I) := [mj_o (.aload_n 0), mj_q (.invokevirtual 88) 56 1 0 658 4, mj_n, mj_n, mj_o (.aload_n 0), mj_q (.getfield 31) 4 1 0 381 0, mj_n, mj_n, mj_o (.aload_n 0), mj_q (.getfield 35) 4 2 0 382 0, mj_n, mj_n, mj_q (.invokevirtual 91) 79 2 0 662 7, mj_n, mj_n, mj_o (.iload_n 1), mj_q (.if_icmp .eq 5) 21 0 0 0 0, mj_n, mj_n, mj_o (.iconst 0), mj_o .ireturn, mj_o (.aload_n 0), mj_o .dup, mj_q (.getfield 35) 4 2 0 382 0, mj_n, mj_n, mj_o (.iconst 1), mj_o .iadd, mj_q (.putfield 35) 4 2 0 382 0, mj_n, mj_n, mj_o (.iconst 1), mj_o .ireturn]
def mj_m57 : mj_M := (⟨"PolyRegisters$Reader", "takes", "(C)Z"⟩, prog_6_method_13_code, 2, some FieldType.boolean, mj_look mj_l57, [], 1, 657, 117, 656, 12)
-- 58: PolyRegisters$Roots.<init>(LPolyRegisters$Desk;LPolyRegisters$Sturm;)V
def mj_l58 : List (Option mj_I) := [mj_o (.aload_n 0), mj_q (.invokespecial 1) 0 0 5 326 0, mj_n, mj_n, mj_o (.aload_n 0), mj_q (.new 7) 8 0 0 327 0, mj_n, mj_n, mj_o .dup, mj_o (.bipush 12), mj_n, mj_q (.invokespecial 9) 85 2 0 328 0, mj_n, mj_n, mj_q (.putfield 12) 5 6 3 341 0, mj_n, mj_n, mj_o (.aload_n 0), mj_q (.new 7) 8 0 0 327 0, mj_n, mj_n, mj_o .dup, mj_o (.bipush 12), mj_n, mj_q (.invokespecial 9) 85 2 0 328 0, mj_n, mj_n, mj_q (.putfield 18) 5 8 3 344 0, mj_n, mj_n, mj_o (.aload_n 0), mj_q (.new 7) 8 0 0 327 0, mj_n, mj_n, mj_o .dup, mj_o (.bipush 12), mj_n, mj_q (.invokespecial 9) 85 2 0 328 0, mj_n, mj_n, mj_q (.putfield 21) 5 9 3 345 0, mj_n, mj_n, mj_o (.aload_n 0), mj_q (.new 7) 8 0 0 327 0, mj_n, mj_n, mj_o .dup, mj_o (.bipush 12), mj_n, mj_q (.invokespecial 9) 85 2 0 328 0, mj_n, mj_n, mj_q (.putfield 24) 5 10 3 346 0, mj_n, mj_n, mj_o (.aload_n 0), mj_q (.new 7) 8 0 0 327 0, mj_n, mj_n, mj_o .dup, mj_o (.iconst 1), mj_q (.invokespecial 9) 85 2 0 328 0, mj_n, mj_n, mj_q (.putfield 27) 5 11 3 347 0, mj_n, mj_n, mj_o (.aload_n 0), mj_o (.aload_n 1), mj_q (.putfield 30) 5 0 3 334 0, mj_n, mj_n, mj_o (.aload_n 0), mj_o (.aload_n 2), mj_q (.putfield 34) 5 1 3 335 0, mj_n, mj_n, mj_o (.aload_n 0), mj_q (.getfield 27) 5 11 0 347 0, mj_n, mj_n, mj_o (.lconst 1), mj_q (.invokevirtual 38) 86 2 0 329 8, mj_n, mj_n, mj_o .return_]
def mj_m58 : mj_M := (⟨"PolyRegisters$Roots", "<init>", "(LPolyRegisters$Desk;LPolyRegisters$Sturm;)V"⟩, prog_7_method_1_code, 3, none, mj_look mj_l58, [], 2, 325, 116, 324, 0)
-- 59: PolyRegisters$Roots.shareRows([J[J[J)Z
def mj_l59_0 : List (Option mj_I) := [mj_o (.aload_n 1), mj_q (.invokestatic 42) 162 1 1 978 0, mj_n, mj_n, mj_o (.aload_n 2), mj_q (.invokestatic 42) 162 1 1 978 0, mj_n, mj_n, mj_q (.if_icmp .lt 7) 15 0 0 0 0, mj_n, mj_n, mj_o (.aload_n 1), mj_q (.goto 4) 16 0 0 0 0, mj_n, mj_n, mj_o (.aload_n 2), mj_o (.astore 4), mj_n, mj_o (.aload_n 1), mj_q (.invokestatic 42) 162 1 1 978 0, mj_n, mj_n, mj_o (.aload_n 2), mj_q (.invokestatic 42) 162 1 1 978 0, mj_n, mj_n, mj_q (.if_icmp .lt 7) 33 0 0 0 0, mj_n, mj_n, mj_o (.aload_n 2), mj_q (.goto 4) 34 0 0 0 0, mj_n, mj_n, mj_o (.aload_n 1), mj_o (.astore 5), mj_n, mj_o (.aload 4), mj_n, mj_q (.invokestatic 48) 169 1 1 979 0, mj_n, mj_n, mj_o (.aload 5), mj_n, mj_q (.invokestatic 48) 169 1 1 979 0, mj_n, mj_n, mj_q (.invokestatic 52) 171 2 1 985 0, mj_n, mj_n, mj_o (.lstore 6), mj_n, mj_o (.aload 5), mj_n, mj_q (.invokestatic 42) 162 1 1 978 0, mj_n, mj_n, mj_q (.ifCond .ge 23) 79 0 0 0 0, mj_n, mj_n, mj_o (.aload_n 0), mj_q (.getfield 30) 5 0 0 334 0, mj_n, mj_n, mj_q (.getfield 56) 1 0 0 254 0, mj_n, mj_n, mj_o (.aload 4), mj_n, mj_o (.aload 4), mj_n, mj_q (.invokestatic 62) 170 1 1 986 0, mj_n, mj_n, mj_q (.invokevirtual 65) 40 3 0 990 3, mj_n, mj_n, mj_q (.goto 96) 172 0 0 0 0, mj_n, mj_n, mj_o (.aload_n 0), mj_q (.getfield 34) 5 1 0 335 0, mj_n, mj_n, mj_q (.getfield 71) 6 1 0 302 0, mj_n, mj_n, mj_o (.iconst 0), mj_o .aaload, mj_o (.aload 4), mj_n, mj_o (.aload 4), mj_n, mj_q (.invokestatic 62) 170 1 1 986 0, mj_n, mj_n, mj_q (.invokevirtual 65) 40 3 0 990 3, mj_n, mj_n, mj_o (.aload_n 0), mj_q (.getfield 34) 5 1 0 335 0, mj_n, mj_n, mj_q (.getfield 71) 6 1 0 302 0, mj_n, mj_n, mj_o (.iconst 1), mj_o .aaload, mj_o (.aload 5), mj_n, mj_o (.aload 5), mj_n, mj_q (.invokestatic 62) 170 1 1 986 0, mj_n, mj_n, mj_q (.invokevirtual 65) 40 3 0 990 3, mj_n, mj_n, mj_o (.aload_n 0), mj_q (.getfield 34) 5 1 0 335 0, mj_n]
def mj_l59_1 : List (Option mj_I) := [mj_n, mj_q (.getfield 71) 6 1 0 302 0, mj_n, mj_n, mj_o (.iconst 0), mj_o .aaload, mj_q (.invokevirtual 77) 37 1 0 991 3, mj_n, mj_n, mj_q (.invokevirtual 81) 100 1 0 992 8, mj_n, mj_n, mj_o (.aload_n 0), mj_q (.getfield 34) 5 1 0 335 0, mj_n, mj_n, mj_q (.getfield 71) 6 1 0 302 0, mj_n, mj_n, mj_o (.iconst 1), mj_o .aaload, mj_q (.invokevirtual 77) 37 1 0 991 3, mj_n, mj_n, mj_q (.invokevirtual 81) 100 1 0 992 8, mj_n, mj_n, mj_q (.invokestatic 52) 171 2 1 985 0, mj_n, mj_n, mj_o (.lstore 8), mj_n, mj_o (.aload_n 0), mj_q (.getfield 34) 5 1 0 335 0, mj_n, mj_n, mj_q (.invokevirtual 85) 70 1 0 993 6, mj_n, mj_n, mj_o (.aload_n 0), mj_o (.aload_n 0), mj_q (.getfield 34) 5 1 0 335 0, mj_n, mj_n, mj_q (.invokevirtual 88) 73 1 0 1063 6, mj_n, mj_n, mj_o (.lload 8), mj_n, mj_q (.invokevirtual 92) 60 3 0 1067 5, mj_n, mj_n, mj_o (.iconst 0), mj_o (.istore 8), mj_n, mj_o (.iload 8), mj_n, mj_o (.aload_n 0), mj_q (.getfield 30) 5 0 0 334 0, mj_n, mj_n, mj_q (.getfield 56) 1 0 0 254 0, mj_n, mj_n, mj_q (.getfield 96) 3 2 0 222 0, mj_n, mj_n, mj_q (.if_icmp .gt 30) 217 0 0 0 0, mj_n, mj_n, mj_o (.aload_n 0), mj_q (.getfield 30) 5 0 0 334 0, mj_n, mj_n, mj_o (.aload_n 0), mj_q (.getfield 30) 5 0 0 334 0, mj_n, mj_n, mj_q (.getfield 56) 1 0 0 254 0, mj_n, mj_n, mj_o (.iload 8), mj_n, mj_q (.invokevirtual 100) 36 2 0 1073 3, mj_n, mj_n, mj_o (.lload 6), mj_n, mj_q (.invokevirtual 104) 24 3 0 1075 1, mj_n, mj_n, mj_o (.iinc 8 1), mj_n, mj_n, mj_q (.goto (-39)) 175 0 0 0 0, mj_n, mj_n, mj_o (.aload_n 0), mj_q (.getfield 30) 5 0 0 334 0, mj_n, mj_n, mj_q (.getfield 56) 1 0 0 254 0, mj_n, mj_n, mj_o (.aload_n 3), mj_q (.invokevirtual 108) 44 2 0 1092 3, mj_n, mj_n, mj_o .ireturn]
def mj_l59 : List (Option mj_I) := mj_l59_0 ++ (mj_l59_1)
def mj_m59 : mj_M := (⟨"PolyRegisters$Roots", "shareRows", "([J[J[J)Z"⟩, prog_7_method_2_code, 10, some FieldType.boolean, mj_look mj_l59, [], 1, 977, 116, 975, 976)
-- 60: PolyRegisters$Roots.takePrimitive(LPolyRegisters$Poly;J)V
def mj_l60_0 : List (Option mj_I) := [mj_o (.aload_n 0), mj_q (.getfield 30) 5 0 0 334 0, mj_n, mj_n, mj_q (.getfield 56) 1 0 0 254 0, mj_n, mj_n, mj_q (.invokevirtual 112) 39 1 0 1071 3, mj_n, mj_n, mj_o (.aload_n 0), mj_q (.getfield 30) 5 0 0 334 0, mj_n, mj_n, mj_q (.getfield 115) 1 7 0 270 0, mj_n, mj_n, mj_o (.aload_n 1), mj_q (.invokevirtual 77) 37 1 0 991 3, mj_n, mj_n, mj_q (.invokevirtual 119) 30 2 0 1072 2, mj_n, mj_n, mj_o (.iconst 0), mj_o (.istore 4), mj_n, mj_o (.iload 4), mj_n, mj_o (.aload_n 1), mj_q (.getfield 96) 3 2 0 222 0, mj_n, mj_n, mj_q (.if_icmp .gt 69) 102 0 0 0 0, mj_n, mj_n, mj_o (.aload_n 0), mj_q (.getfield 30) 5 0 0 334 0, mj_n, mj_n, mj_q (.getfield 125) 1 5 0 266 0, mj_n, mj_n, mj_o (.aload_n 1), mj_o (.iload 4), mj_n, mj_q (.invokevirtual 100) 36 2 0 1073 3, mj_n, mj_n, mj_q (.invokevirtual 128) 87 2 0 1074 8, mj_n, mj_n, mj_o (.aload_n 0), mj_q (.getfield 30) 5 0 0 334 0, mj_n, mj_n, mj_o (.aload_n 0), mj_q (.getfield 30) 5 0 0 334 0, mj_n, mj_n, mj_q (.getfield 125) 1 5 0 266 0, mj_n, mj_n, mj_o (.lload_n 2), mj_q (.invokevirtual 104) 24 3 0 1075 1, mj_n, mj_n, mj_o (.aload_n 0), mj_q (.getfield 30) 5 0 0 334 0, mj_n, mj_n, mj_q (.getfield 115) 1 7 0 270 0, mj_n, mj_n, mj_o (.aload_n 0), mj_q (.getfield 30) 5 0 0 334 0, mj_n, mj_n, mj_q (.getfield 125) 1 5 0 266 0, mj_n, mj_n, mj_o (.aload_n 0), mj_q (.getfield 30) 5 0 0 334 0, mj_n, mj_n, mj_q (.getfield 56) 1 0 0 254 0, mj_n, mj_n, mj_o (.iload 4), mj_n, mj_q (.invokevirtual 100) 36 2 0 1073 3, mj_n, mj_n, mj_q (.invokevirtual 131) 31 3 0 1079 2, mj_n, mj_n, mj_o (.iinc 4 1), mj_n, mj_n, mj_q (.goto (-72)) 27 0 0 0 0, mj_n, mj_n, mj_o (.aload_n 0), mj_q (.getfield 30) 5 0 0 334 0, mj_n, mj_n, mj_q (.getfield 56) 1 0 0 254 0, mj_n, mj_n, mj_q (.invokevirtual 135) 42 1 0 1080 3, mj_n, mj_n, mj_o (.aload_n 0), mj_q (.getfield 30) 5 0 0 334 0, mj_n, mj_n, mj_o (.lload_n 2), mj_q (.invokevirtual 138) 22 2 0 1081 1, mj_n, mj_n]
def mj_l60_1 : List (Option mj_I) := [mj_o .pop2, mj_o .return_]
def mj_l60 : List (Option mj_I) := mj_l60_0 ++ (mj_l60_1)
def mj_m60 : mj_M := (⟨"PolyRegisters$Roots", "takePrimitive", "(LPolyRegisters$Poly;J)V"⟩, prog_7_method_3_code, 5, none, mj_look mj_l60, [], 1, 1070, 116, 1069, 27)
-- 61: PolyRegisters$Roots.begin([J)V
def mj_l61_0 : List (Option mj_I) := [mj_o (.aload_n 0), mj_q (.getfield 34) 5 1 0 335 0, mj_n, mj_n, mj_q (.getfield 71) 6 1 0 302 0, mj_n, mj_n, mj_o (.iconst 0), mj_o .aaload, mj_o (.aload_n 1), mj_o (.aload_n 1), mj_q (.invokestatic 62) 170 1 1 986 0, mj_n, mj_n, mj_q (.invokevirtual 65) 40 3 0 990 3, mj_n, mj_n, mj_o (.aload_n 0), mj_q (.getfield 34) 5 1 0 335 0, mj_n, mj_n, mj_q (.invokevirtual 142) 69 1 0 1112 6, mj_n, mj_n, mj_o (.aload_n 0), mj_q (.getfield 34) 5 1 0 335 0, mj_n, mj_n, mj_q (.invokevirtual 85) 70 1 0 993 6, mj_n, mj_n, mj_o (.aload_n 0), mj_o (.aload_n 0), mj_q (.getfield 34) 5 1 0 335 0, mj_n, mj_n, mj_q (.invokevirtual 88) 73 1 0 1063 6, mj_n, mj_n, mj_q (.getfield 96) 3 2 0 222 0, mj_n, mj_n, mj_q (.ifCond .gt 7) 49 0 0 0 0, mj_n, mj_n, mj_o (.iconst 1), mj_q (.goto 4) 50 0 0 0 0, mj_n, mj_n, mj_o (.iconst 0), mj_q (.putfield 145) 5 2 2 336 0, mj_n, mj_n, mj_o (.aload_n 0), mj_q (.getfield 145) 5 2 0 336 0, mj_n, mj_n, mj_q (.ifCond .ne 89) 146 0 0 0 0, mj_n, mj_n, mj_o (.aload_n 0), mj_o (.aload_n 0), mj_q (.getfield 34) 5 1 0 335 0, mj_n, mj_n, mj_q (.invokevirtual 88) 73 1 0 1063 6, mj_n, mj_n, mj_o (.aload_n 0), mj_q (.getfield 34) 5 1 0 335 0, mj_n, mj_n, mj_q (.getfield 71) 6 1 0 302 0, mj_n, mj_n, mj_o (.iconst 0), mj_o .aaload, mj_q (.invokevirtual 77) 37 1 0 991 3, mj_n, mj_n, mj_q (.invokevirtual 81) 100 1 0 992 8, mj_n, mj_n, mj_q (.invokevirtual 92) 60 3 0 1067 5, mj_n, mj_n, mj_o (.aload_n 0), mj_q (.getfield 30) 5 0 0 334 0, mj_n, mj_n, mj_q (.getfield 149) 1 2 0 259 0, mj_n, mj_n, mj_o (.aload_n 0), mj_q (.getfield 34) 5 1 0 335 0, mj_n, mj_n, mj_q (.getfield 71) 6 1 0 302 0, mj_n, mj_n, mj_o (.iconst 0), mj_o .aaload, mj_q (.invokevirtual 152) 41 2 0 1119 3, mj_n, mj_n, mj_o (.aload_n 0), mj_q (.getfield 30) 5 0 0 334 0, mj_n, mj_n, mj_o (.aload_n 0), mj_q (.getfield 30) 5 0 0 334 0, mj_n, mj_n, mj_q (.getfield 56) 1 0 0 254 0, mj_n, mj_n, mj_o (.aload_n 0), mj_q (.getfield 30) 5 0 0 334 0, mj_n, mj_n]
def mj_l61_1 : List (Option mj_I) := [mj_q (.getfield 155) 1 1 0 257 0, mj_n, mj_n, mj_q (.invokevirtual 158) 19 3 0 1120 1, mj_n, mj_n, mj_o .pop, mj_o (.aload_n 0), mj_q (.getfield 34) 5 1 0 335 0, mj_n, mj_n, mj_q (.getfield 71) 6 1 0 302 0, mj_n, mj_n, mj_o (.iconst 0), mj_o .aaload, mj_o (.aload_n 0), mj_q (.getfield 30) 5 0 0 334 0, mj_n, mj_n, mj_q (.getfield 155) 1 1 0 257 0, mj_n, mj_n, mj_q (.invokevirtual 152) 41 2 0 1119 3, mj_n, mj_n, mj_o .return_]
def mj_l61 : List (Option mj_I) := mj_l61_0 ++ (mj_l61_1)
def mj_m61 : mj_M := (⟨"PolyRegisters$Roots", "begin", "([J)V"⟩, prog_7_method_4_code, 2, none, mj_look mj_l61, [], 1, 1111, 116, 1109, 1110)
-- 62: PolyRegisters$Roots.storeSimple([J)Z
def mj_l62 : List (Option mj_I) := [mj_o (.aload_n 0), mj_q (.getfield 34) 5 1 0 335 0, mj_n, mj_n, mj_q (.getfield 71) 6 1 0 302 0, mj_n, mj_n, mj_o (.iconst 0), mj_o .aaload, mj_o (.aload_n 1), mj_q (.invokevirtual 108) 44 2 0 1092 3, mj_n, mj_n, mj_o .ireturn]
def mj_m62 : mj_M := (⟨"PolyRegisters$Roots", "storeSimple", "([J)Z"⟩, prog_7_method_5_code, 2, some FieldType.boolean, mj_look mj_l62, [], 1, 1127, 116, 1125, 1126)
-- 63: PolyRegisters$Roots.countReal()I
def mj_l63 : List (Option mj_I) := [mj_o (.aload_n 0), mj_q (.getfield 145) 5 2 0 336 0, mj_n, mj_n, mj_q (.ifCond .ne 17) 21 0 0 0 0, mj_n, mj_n, mj_o (.aload_n 0), mj_q (.getfield 34) 5 1 0 335 0, mj_n, mj_n, mj_q (.invokevirtual 142) 69 1 0 1112 6, mj_n, mj_n, mj_o (.aload_n 0), mj_q (.getfield 34) 5 1 0 335 0, mj_n, mj_n, mj_q (.invokevirtual 85) 70 1 0 993 6, mj_n, mj_n, mj_o (.aload_n 0), mj_o (.aload_n 0), mj_q (.getfield 34) 5 1 0 335 0, mj_n, mj_n, mj_o (.iconst (-1)), mj_q (.invokevirtual 162) 77 2 0 1370 6, mj_n, mj_n, mj_q (.putfield 166) 5 4 0 338 0, mj_n, mj_n, mj_o (.aload_n 0), mj_o (.aload_n 0), mj_q (.getfield 166) 5 4 0 338 0, mj_n, mj_n, mj_o (.aload_n 0), mj_q (.getfield 34) 5 1 0 335 0, mj_n, mj_n, mj_o (.iconst 1), mj_q (.invokevirtual 162) 77 2 0 1370 6, mj_n, mj_n, mj_o .isub, mj_q (.putfield 169) 5 3 0 337 0, mj_n, mj_n, mj_o (.aload_n 0), mj_q (.getfield 169) 5 3 0 337 0, mj_n, mj_n, mj_o .ireturn]
def mj_m63 : mj_M := (⟨"PolyRegisters$Roots", "countReal", "()I"⟩, prog_7_method_6_code, 1, some FieldType.int, mj_look mj_l63, [], 1, 1369, 116, 1367, 1368)
-- 64: PolyRegisters$Roots.stretch(J)V
def mj_l64_0 : List (Option mj_I) := [mj_o (.aload_n 0), mj_o (.lload_n 1), mj_q (.putfield 172) 5 5 1 339 0, mj_n, mj_n, mj_o (.aload_n 0), mj_q (.getfield 34) 5 1 0 335 0, mj_n, mj_n, mj_q (.getfield 71) 6 1 0 302 0, mj_n, mj_n, mj_o (.iconst 0), mj_o .aaload, mj_o (.astore_n 3), mj_o (.aload_n 0), mj_q (.getfield 24) 5 10 0 346 0, mj_n, mj_n, mj_o (.lconst 0), mj_q (.invokevirtual 38) 86 2 0 329 8, mj_n, mj_n, mj_o (.iconst 0), mj_o (.istore 4), mj_n, mj_o (.iload 4), mj_n, mj_o (.aload_n 3), mj_q (.getfield 96) 3 2 0 222 0, mj_n, mj_n, mj_q (.if_icmp .gt 31) 63 0 0 0 0, mj_n, mj_n, mj_o (.aload_n 0), mj_q (.getfield 24) 5 10 0 346 0, mj_n, mj_n, mj_o (.aload_n 3), mj_o (.iload 4), mj_n, mj_q (.invokevirtual 100) 36 2 0 1073 3, mj_n, mj_n, mj_o (.aload_n 3), mj_o (.iload 4), mj_n, mj_q (.invokevirtual 100) 36 2 0 1073 3, mj_n, mj_n, mj_q (.getfield 176) 8 2 0 208 1, mj_n, mj_n, mj_q (.invokevirtual 179) 91 3 0 1375 8, mj_n, mj_n, mj_o (.iinc 4 1), mj_n, mj_n, mj_q (.goto (-34)) 26 0 0 0 0, mj_n, mj_n, mj_o (.aload_n 0), mj_q (.getfield 30) 5 0 0 334 0, mj_n, mj_n, mj_o (.aload_n 0), mj_q (.getfield 24) 5 10 0 346 0, mj_n, mj_n, mj_o (.lload_n 1), mj_q (.invokevirtual 104) 24 3 0 1075 1, mj_n, mj_n, mj_o (.aload_n 0), mj_q (.getfield 18) 5 8 0 344 0, mj_n, mj_n, mj_o (.lconst 1), mj_q (.invokevirtual 38) 86 2 0 329 8, mj_n, mj_n, mj_o (.aload_n 0), mj_q (.getfield 21) 5 9 0 345 0, mj_n, mj_n, mj_o (.aload_n 3), mj_q (.invokevirtual 77) 37 1 0 991 3, mj_n, mj_n, mj_q (.invokevirtual 128) 87 2 0 1074 8, mj_n, mj_n, mj_o (.iconst 0), mj_o (.istore 4), mj_n, mj_o (.iload 4), mj_n, mj_o (.sipush 200), mj_n, mj_n, mj_q (.if_icmp .ge 69) 171 0 0 0 0, mj_n, mj_n, mj_o (.aload_n 0), mj_q (.getfield 12) 5 6 0 341 0, mj_n, mj_n, mj_o (.aload_n 0), mj_q (.getfield 24) 5 10 0 346 0, mj_n, mj_n, mj_q (.invokevirtual 128) 87 2 0 1074 8, mj_n, mj_n, mj_o (.aload_n 0), mj_q (.getfield 12) 5 6 0 341 0, mj_n, mj_n]
def mj_l64_1 : List (Option mj_I) := [mj_o (.aload_n 0), mj_q (.getfield 21) 5 9 0 345 0, mj_n, mj_n, mj_o (.iconst (-1)), mj_q (.invokevirtual 179) 91 3 0 1375 8, mj_n, mj_n, mj_o (.aload_n 0), mj_q (.getfield 12) 5 6 0 341 0, mj_n, mj_n, mj_q (.getfield 176) 8 2 0 208 1, mj_n, mj_n, mj_q (.ifCond .gt 6) 141 0 0 0 0, mj_n, mj_n, mj_q (.goto 33) 171 0 0 0 0, mj_n, mj_n, mj_o (.aload_n 0), mj_q (.getfield 21) 5 9 0 345 0, mj_n, mj_n, mj_o (.aload_n 0), mj_q (.getfield 21) 5 9 0 345 0, mj_n, mj_n, mj_o (.iconst 1), mj_q (.invokevirtual 179) 91 3 0 1375 8, mj_n, mj_n, mj_o (.aload_n 0), mj_q (.getfield 18) 5 8 0 344 0, mj_n, mj_n, mj_o (.aload_n 0), mj_q (.getfield 18) 5 8 0 344 0, mj_n, mj_n, mj_o (.iconst 1), mj_q (.invokevirtual 179) 91 3 0 1375 8, mj_n, mj_n, mj_o (.iinc 4 1), mj_n, mj_n, mj_q (.goto (-71)) 97 0 0 0 0, mj_n, mj_n, mj_o (.aload_n 0), mj_q (.getfield 34) 5 1 0 335 0, mj_n, mj_n, mj_o (.lload_n 1), mj_q (.invokevirtual 183) 74 2 0 1376 6, mj_n, mj_n, mj_o .return_]
def mj_l64 : List (Option mj_I) := mj_l64_0 ++ (mj_l64_1)
def mj_m64 : mj_M := (⟨"PolyRegisters$Roots", "stretch", "(J)V"⟩, prog_7_method_7_code, 5, none, mj_look mj_l64, [], 1, 1374, 116, 1372, 1373)
-- 65: PolyRegisters$Roots.locate(I)V
def mj_l65_0 : List (Option mj_I) := [mj_o (.aload_n 0), mj_q (.getfield 34) 5 1 0 335 0, mj_n, mj_n, mj_q (.getfield 71) 6 1 0 302 0, mj_n, mj_n, mj_o (.iconst 0), mj_o .aaload, mj_o (.astore_n 2), mj_o (.iconst 0), mj_o (.istore_n 3), mj_o (.aload_n 0), mj_q (.getfield 169) 5 3 0 337 0, mj_n, mj_n, mj_o (.istore 4), mj_n, mj_o (.aload_n 0), mj_q (.getfield 169) 5 3 0 337 0, mj_n, mj_n, mj_o (.iload_n 1), mj_o .isub, mj_o (.iconst 2), mj_o .irem, mj_q (.ifCond .ne 7) 33 0 0 0 0, mj_n, mj_n, mj_o (.iconst 1), mj_q (.goto 4) 34 0 0 0 0, mj_n, mj_n, mj_o (.iconst (-1)), mj_o (.istore 5), mj_n, mj_o (.aload_n 0), mj_q (.getfield 12) 5 6 0 341 0, mj_n, mj_n, mj_o (.aload_n 0), mj_q (.getfield 18) 5 8 0 344 0, mj_n, mj_n, mj_q (.invokevirtual 128) 87 2 0 1074 8, mj_n, mj_n, mj_o (.aload_n 0), mj_q (.getfield 12) 5 6 0 341 0, mj_n, mj_n, mj_o (.iconst (-1)), mj_q (.putfield 176) 8 2 0 208 1, mj_n, mj_n, mj_o (.aload_n 0), mj_q (.getfield 21) 5 9 0 345 0, mj_n, mj_n, mj_o (.aload_n 0), mj_q (.getfield 18) 5 8 0 344 0, mj_n, mj_n, mj_q (.invokevirtual 128) 87 2 0 1074 8, mj_n, mj_n, mj_o (.iconst 0), mj_o (.istore 6), mj_n, mj_o (.iload 6), mj_n, mj_o (.sipush 200), mj_n, mj_n, mj_q (.if_icmp .ge 136) 210 0 0 0 0, mj_n, mj_n, mj_o (.aload_n 0), mj_q (.getfield 21) 5 9 0 345 0, mj_n, mj_n, mj_q (.getfield 176) 8 2 0 208 1, mj_n, mj_n, mj_q (.ifCond .eq 126) 210 0 0 0 0, mj_n, mj_n, mj_o (.aload_n 0), mj_q (.getfield 24) 5 10 0 346 0, mj_n, mj_n, mj_o (.aload_n 0), mj_q (.getfield 12) 5 6 0 341 0, mj_n, mj_n, mj_q (.invokevirtual 128) 87 2 0 1074 8, mj_n, mj_n, mj_o (.aload_n 0), mj_q (.getfield 24) 5 10 0 346 0, mj_n, mj_n, mj_o (.aload_n 0), mj_q (.getfield 21) 5 9 0 345 0, mj_n, mj_n, mj_o (.iconst 1), mj_q (.invokevirtual 179) 91 3 0 1375 8, mj_n, mj_n, mj_o (.iload 4), mj_n, mj_o (.iload_n 3), mj_o .isub, mj_o (.iconst 1), mj_q (.if_icmp .gt 34) 149 0 0 0 0, mj_n, mj_n, mj_o (.aload_n 0), mj_q (.getfield 30) 5 0 0 334 0]
def mj_l65_1 : List (Option mj_I) := [mj_n, mj_n, mj_o (.aload_n 2), mj_o (.aload_n 0), mj_q (.getfield 24) 5 10 0 346 0, mj_n, mj_n, mj_q (.invokevirtual 186) 28 3 0 1381 1, mj_n, mj_n, mj_o (.iload 5), mj_n, mj_q (.if_icmp .ne 62) 194 0 0 0 0, mj_n, mj_n, mj_o (.aload_n 0), mj_q (.getfield 12) 5 6 0 341 0, mj_n, mj_n, mj_o (.aload_n 0), mj_q (.getfield 24) 5 10 0 346 0, mj_n, mj_n, mj_q (.invokevirtual 128) 87 2 0 1074 8, mj_n, mj_n, mj_q (.goto 48) 194 0 0 0 0, mj_n, mj_n, mj_o (.aload_n 0), mj_q (.getfield 166) 5 4 0 338 0, mj_n, mj_n, mj_o (.aload_n 0), mj_q (.getfield 34) 5 1 0 335 0, mj_n, mj_n, mj_o (.aload_n 0), mj_q (.getfield 24) 5 10 0 346 0, mj_n, mj_n, mj_q (.invokevirtual 190) 76 2 0 1382 6, mj_n, mj_n, mj_o .isub, mj_o (.istore 7), mj_n, mj_o (.iload 7), mj_n, mj_o (.iload_n 1), mj_q (.if_icmp .gt 20) 190 0 0 0 0, mj_n, mj_n, mj_o (.aload_n 0), mj_q (.getfield 12) 5 6 0 341 0, mj_n, mj_n, mj_o (.aload_n 0), mj_q (.getfield 24) 5 10 0 346 0, mj_n, mj_n, mj_q (.invokevirtual 128) 87 2 0 1074 8, mj_n, mj_n, mj_o (.iload 7), mj_n, mj_o (.istore_n 3), mj_q (.goto 7) 194 0 0 0 0, mj_n, mj_n, mj_o (.iload 7), mj_n, mj_o (.istore 4), mj_n, mj_o (.aload_n 0), mj_q (.getfield 21) 5 9 0 345 0, mj_n, mj_n, mj_q (.ldc2_w 194) 2 0 0 1383 0, mj_n, mj_n, mj_q (.invokevirtual 196) 97 2 0 1384 8, mj_n, mj_n, mj_o (.iinc 6 1), mj_n, mj_n, mj_q (.goto (-138)) 69 0 0 0 0, mj_n, mj_n, mj_o (.aload_n 0), mj_q (.getfield 24) 5 10 0 346 0, mj_n, mj_n, mj_o (.aload_n 0), mj_q (.getfield 12) 5 6 0 341 0, mj_n, mj_n, mj_q (.invokevirtual 128) 87 2 0 1074 8, mj_n, mj_n, mj_o (.aload_n 0), mj_q (.getfield 24) 5 10 0 346 0, mj_n, mj_n, mj_o (.aload_n 0), mj_q (.getfield 27) 5 11 0 347 0, mj_n, mj_n, mj_o (.iconst 1), mj_q (.invokevirtual 179) 91 3 0 1375 8, mj_n, mj_n, mj_o (.aload_n 0), mj_o (.iload 4), mj_n, mj_o (.iload_n 1), mj_o (.iconst 1), mj_o .iadd, mj_q (.if_icmp .ne 22) 261 0 0 0 0]
def mj_l65_2 : List (Option mj_I) := [mj_n, mj_n, mj_o (.aload_n 0), mj_q (.getfield 30) 5 0 0 334 0, mj_n, mj_n, mj_o (.aload_n 2), mj_o (.aload_n 0), mj_q (.getfield 24) 5 10 0 346 0, mj_n, mj_n, mj_q (.invokevirtual 186) 28 3 0 1381 1, mj_n, mj_n, mj_q (.ifCond .ne 7) 261 0 0 0 0, mj_n, mj_n, mj_o (.iconst 1), mj_q (.goto 4) 262 0 0 0 0, mj_n, mj_n, mj_o (.iconst 0), mj_q (.putfield 199) 5 7 2 343 0, mj_n, mj_n, mj_o (.aload_n 0), mj_q (.getfield 199) 5 7 0 343 0, mj_n, mj_n, mj_q (.ifCond .eq 14) 283 0 0 0 0, mj_n, mj_n, mj_o (.aload_n 0), mj_q (.getfield 12) 5 6 0 341 0, mj_n, mj_n, mj_o (.aload_n 0), mj_q (.getfield 24) 5 10 0 346 0, mj_n, mj_n, mj_q (.invokevirtual 128) 87 2 0 1074 8, mj_n, mj_n, mj_o .return_]
def mj_l65 : List (Option mj_I) := mj_l65_0 ++ (mj_l65_1 ++ (mj_l65_2))
def mj_m65 : mj_M := (⟨"PolyRegisters$Roots", "locate", "(I)V"⟩, prog_7_method_8_code, 8, none, mj_look mj_l65, [], 1, 1380, 116, 1378, 1379)
-- 66: PolyRegisters$Roots.countFractions(I)I
def mj_l66 : List (Option mj_I) := [mj_o (.aload_n 0), mj_o (.aload_n 0), mj_q (.getfield 34) 5 1 0 335 0, mj_n, mj_n, mj_q (.getfield 71) 6 1 0 302 0, mj_n, mj_n, mj_o (.iconst 0), mj_o .aaload, mj_q (.invokevirtual 77) 37 1 0 991 3, mj_n, mj_n, mj_q (.invokevirtual 81) 100 1 0 992 8, mj_n, mj_n, mj_q (.invokevirtual 202) 64 2 0 1396 5, mj_n, mj_n, mj_o (.iconst 0), mj_o (.istore_n 2), mj_o (.iconst 0), mj_o (.istore_n 3), mj_o (.iload_n 3), mj_o (.aload_n 0), mj_q (.getfield 169) 5 3 0 337 0, mj_n, mj_n, mj_q (.if_icmp .ge 34) 62 0 0 0 0, mj_n, mj_n, mj_o (.iload_n 2), mj_o (.iload_n 1), mj_q (.if_icmp .ge 29) 62 0 0 0 0, mj_n, mj_n, mj_o (.aload_n 0), mj_o (.iload_n 3), mj_q (.invokevirtual 203) 65 2 0 1397 5, mj_n, mj_n, mj_o (.iload_n 2), mj_o (.aload_n 0), mj_q (.getfield 199) 5 7 0 343 0, mj_n, mj_n, mj_q (.ifCond .eq 7) 53 0 0 0 0, mj_n, mj_n, mj_o (.iconst 1), mj_q (.goto 4) 54 0 0 0 0, mj_n, mj_n, mj_o (.iconst 0), mj_o .iadd, mj_o (.istore_n 2), mj_o (.iinc 3 1), mj_n, mj_n, mj_q (.goto (-36)) 23 0 0 0 0, mj_n, mj_n, mj_o (.iload_n 2), mj_o .ireturn]
def mj_m66 : mj_M := (⟨"PolyRegisters$Roots", "countFractions", "(I)I"⟩, prog_7_method_9_code, 4, some FieldType.int, mj_look mj_l66, [], 1, 1395, 116, 1393, 1394)
-- 67: PolyRegisters$Sturm.<init>(LPolyRegisters$Desk;)V
def mj_l67 : List (Option mj_I) := [mj_o (.aload_n 0), mj_q (.invokespecial 3) 0 0 5 294 0, mj_n, mj_n, mj_o (.aload_n 0), mj_o (.bipush 14), mj_n, mj_q (.anewarray 9) 4 0 0 295 296, mj_n, mj_n, mj_q (.putfield 11) 6 1 3 301 0, mj_n, mj_n, mj_o (.aload_n 0), mj_q (.new 17) 8 0 0 297 0, mj_n, mj_n, mj_o .dup, mj_o (.bipush 60), mj_n, mj_q (.invokespecial 19) 85 2 0 298 0, mj_n, mj_n, mj_q (.putfield 22) 6 3 3 305 0, mj_n, mj_n, mj_o (.aload_n 0), mj_q (.new 17) 8 0 0 297 0, mj_n, mj_n, mj_o .dup, mj_o (.bipush 60), mj_n, mj_q (.invokespecial 19) 85 2 0 298 0, mj_n, mj_n, mj_q (.putfield 26) 6 4 3 306 0, mj_n, mj_n, mj_o (.aload_n 0), mj_q (.new 17) 8 0 0 297 0, mj_n, mj_n, mj_o .dup, mj_o (.iconst 3), mj_q (.invokespecial 19) 85 2 0 298 0, mj_n, mj_n, mj_q (.putfield 29) 6 5 3 307 0, mj_n, mj_n, mj_o (.aload_n 0), mj_o (.aload_n 1), mj_q (.putfield 32) 6 0 3 300 0, mj_n, mj_n, mj_o (.iconst 0), mj_o (.istore_n 2), mj_o (.iload_n 2), mj_o (.aload_n 0), mj_q (.getfield 11) 6 1 0 301 0, mj_n, mj_n, mj_o .arraylength, mj_q (.if_icmp .ge 49) 113 0 0 0 0, mj_n, mj_n, mj_o (.aload_n 0), mj_q (.getfield 11) 6 1 0 301 0, mj_n, mj_n, mj_o (.iload_n 2), mj_o (.iload_n 2), mj_o (.iconst 2), mj_q (.if_icmp .ge 18) 92 0 0 0 0, mj_n, mj_n, mj_q (.new 9) 3 0 0 295 0, mj_n, mj_n, mj_o .dup, mj_o (.bipush 13), mj_n, mj_o (.bipush 30), mj_n, mj_o (.iconst 2), mj_q (.invokespecial 36) 35 4 0 299 0, mj_n, mj_n, mj_q (.goto 17) 106 0 0 0 0, mj_n, mj_n, mj_q (.new 9) 3 0 0 295 0, mj_n, mj_n, mj_o .dup, mj_o (.bipush 14), mj_n, mj_o (.iload_n 2), mj_o .isub, mj_o (.bipush 56), mj_n, mj_o (.iconst 4), mj_q (.invokespecial 36) 35 4 0 299 0, mj_n, mj_n, mj_o .aastore, mj_o (.iinc 2 1), mj_n, mj_n, mj_q (.goto (-52)) 58 0 0 0 0, mj_n, mj_n, mj_o .return_]
def mj_m67 : mj_M := (⟨"PolyRegisters$Sturm", "<init>", "(LPolyRegisters$Desk;)V"⟩, prog_8_method_1_code, 3, none, mj_look mj_l67, [], 2, 293, 115, 292, 0)
-- 68: PolyRegisters$Sturm.begin([JJ)V
def mj_l68 : List (Option mj_I) := [mj_o (.aload_n 0), mj_q (.getfield 11) 6 1 0 301 0, mj_n, mj_n, mj_o (.iconst 0), mj_o .aaload, mj_o (.aload_n 1), mj_o (.lload_n 2), mj_q (.invokevirtual 39) 40 3 0 1317 3, mj_n, mj_n, mj_o (.aload_n 0), mj_q (.invokevirtual 43) 69 1 0 1318 6, mj_n, mj_n, mj_o (.aload_n 0), mj_q (.invokevirtual 46) 70 1 0 1319 6, mj_n, mj_n, mj_o .return_]
def mj_m68 : mj_M := (⟨"PolyRegisters$Sturm", "begin", "([JJ)V"⟩, prog_8_method_2_code, 4, none, mj_look mj_l68, [], 1, 1316, 115, 1314, 1315)
-- 69: PolyRegisters$Sturm.putDerivative()V
def mj_l69 : List (Option mj_I) := [mj_o (.aload_n 0), mj_q (.getfield 11) 6 1 0 301 0, mj_n, mj_n, mj_o (.iconst 1), mj_o .aaload, mj_o (.astore_n 1), mj_o (.aload_n 1), mj_q (.invokevirtual 49) 39 1 0 1116 3, mj_n, mj_n, mj_o (.iconst 1), mj_o (.istore_n 2), mj_o (.iload_n 2), mj_o (.aload_n 0), mj_q (.getfield 11) 6 1 0 301 0, mj_n, mj_n, mj_o (.iconst 0), mj_o .aaload, mj_q (.getfield 52) 3 2 0 223 0, mj_n, mj_n, mj_q (.if_icmp .gt 41) 64 0 0 0 0, mj_n, mj_n, mj_o (.aload_n 1), mj_o (.iload_n 2), mj_o (.iconst 1), mj_o .isub, mj_q (.invokevirtual 56) 36 2 0 1117 3, mj_n, mj_n, mj_o (.aload_n 0), mj_q (.getfield 11) 6 1 0 301 0, mj_n, mj_n, mj_o (.iconst 0), mj_o .aaload, mj_o (.iload_n 2), mj_q (.invokevirtual 56) 36 2 0 1117 3, mj_n, mj_n, mj_q (.invokevirtual 60) 87 2 0 1059 8, mj_n, mj_n, mj_o (.aload_n 1), mj_o (.iload_n 2), mj_o (.iconst 1), mj_o .isub, mj_q (.invokevirtual 56) 36 2 0 1117 3, mj_n, mj_n, mj_o (.iload_n 2), mj_o .i2l, mj_q (.invokevirtual 64) 96 2 0 1118 8, mj_n, mj_n, mj_o (.iinc 2 1), mj_n, mj_n, mj_q (.goto (-48)) 13 0 0 0 0, mj_n, mj_n, mj_o (.aload_n 1), mj_q (.invokevirtual 68) 42 1 0 1004 3, mj_n, mj_n, mj_o .return_]
def mj_m69 : mj_M := (⟨"PolyRegisters$Sturm", "putDerivative", "()V"⟩, prog_8_method_3_code, 3, none, mj_look mj_l69, [], 1, 1115, 115, 1113, 1114)
-- 70: PolyRegisters$Sturm.goOn()V
def mj_l70 : List (Option mj_I) := [mj_o (.aload_n 0), mj_o (.aload_n 0), mj_q (.getfield 11) 6 1 0 301 0, mj_n, mj_n, mj_o (.iconst 1), mj_o .aaload, mj_q (.getfield 52) 3 2 0 223 0, mj_n, mj_n, mj_q (.ifCond .ge 7) 17 0 0 0 0, mj_n, mj_n, mj_o (.iconst 1), mj_q (.goto 4) 18 0 0 0 0, mj_n, mj_n, mj_o (.iconst 2), mj_q (.putfield 71) 6 2 0 303 0, mj_n, mj_n, mj_o (.aload_n 0), mj_q (.getfield 22) 6 3 0 305 0, mj_n, mj_n, mj_o (.lconst 1), mj_q (.invokevirtual 74) 86 2 0 997 8, mj_n, mj_n, mj_o (.aload_n 0), mj_q (.getfield 26) 6 4 0 306 0, mj_n, mj_n, mj_o (.lconst 1), mj_q (.invokevirtual 74) 86 2 0 997 8, mj_n, mj_n, mj_o (.iconst 2), mj_o (.istore_n 1), mj_o (.iload_n 1), mj_o (.aload_n 0), mj_q (.getfield 11) 6 1 0 301 0, mj_n, mj_n, mj_o .arraylength, mj_q (.if_icmp .ge 69) 114 0 0 0 0, mj_n, mj_n, mj_o (.aload_n 0), mj_q (.getfield 11) 6 1 0 301 0, mj_n, mj_n, mj_o (.iload_n 1), mj_o (.iconst 1), mj_o .isub, mj_o .aaload, mj_q (.getfield 52) 3 2 0 223 0, mj_n, mj_n, mj_q (.ifCond .le 55) 114 0 0 0 0, mj_n, mj_n, mj_o (.aload_n 0), mj_o (.aload_n 0), mj_q (.getfield 11) 6 1 0 301 0, mj_n, mj_n, mj_o (.iload_n 1), mj_o (.iconst 2), mj_o .isub, mj_o .aaload, mj_o (.aload_n 0), mj_q (.getfield 11) 6 1 0 301 0, mj_n, mj_n, mj_o (.iload_n 1), mj_o (.iconst 1), mj_o .isub, mj_o .aaload, mj_o (.aload_n 0), mj_q (.getfield 11) 6 1 0 301 0, mj_n, mj_n, mj_o (.iload_n 1), mj_o .aaload, mj_q (.invokevirtual 77) 71 4 0 998 6, mj_n, mj_n, mj_o (.aload_n 0), mj_q (.getfield 11) 6 1 0 301 0, mj_n, mj_n, mj_o (.iload_n 1), mj_o .aaload, mj_q (.getfield 52) 3 2 0 223 0, mj_n, mj_n, mj_q (.ifCond .ge 4) 101 0 0 0 0, mj_n, mj_n, mj_o .return_, mj_o (.aload_n 0), mj_o (.iload_n 1), mj_o (.iconst 1), mj_o .iadd, mj_q (.putfield 71) 6 2 0 303 0, mj_n, mj_n, mj_o (.iinc 1 1), mj_n, mj_n, mj_q (.goto (-72)) 39 0 0 0 0, mj_n, mj_n, mj_o .return_]
def mj_m70 : mj_M := (⟨"PolyRegisters$Sturm", "goOn", "()V"⟩, prog_8_method_4_code, 2, none, mj_look mj_l70, [], 1, 996, 115, 994, 995)
-- 71: PolyRegisters$Sturm.makeNext(LPolyRegisters$Poly;LPolyRegisters$Poly;LPolyRegisters$Poly;)V
def mj_l71_0 : List (Option mj_I) := [mj_o (.aload_n 1), mj_q (.getfield 52) 3 2 0 223 0, mj_n, mj_n, mj_o (.aload_n 2), mj_q (.getfield 52) 3 2 0 223 0, mj_n, mj_n, mj_o .isub, mj_o (.istore 4), mj_n, mj_o (.aload_n 0), mj_q (.getfield 32) 6 0 0 300 0, mj_n, mj_n, mj_q (.getfield 81) 1 2 0 260 0, mj_n, mj_n, mj_o (.aload_n 1), mj_q (.invokevirtual 87) 41 2 0 1002 3, mj_n, mj_n, mj_o (.iload 4), mj_n, mj_o (.istore 5), mj_n, mj_o (.iload 5), mj_n, mj_q (.ifCond .lt 26) 54 0 0 0 0, mj_n, mj_n, mj_o (.aload_n 0), mj_q (.getfield 32) 6 0 0 300 0, mj_n, mj_n, mj_o (.aload_n 0), mj_q (.getfield 32) 6 0 0 300 0, mj_n, mj_n, mj_q (.getfield 81) 1 2 0 260 0, mj_n, mj_n, mj_o (.aload_n 2), mj_o (.iload 5), mj_n, mj_q (.invokevirtual 90) 17 4 0 1003 1, mj_n, mj_n, mj_o (.iinc 5 (-1)), mj_n, mj_n, mj_q (.goto (-25)) 26 0 0 0 0, mj_n, mj_n, mj_o (.aload_n 0), mj_q (.getfield 32) 6 0 0 300 0, mj_n, mj_n, mj_q (.getfield 81) 1 2 0 260 0, mj_n, mj_n, mj_q (.invokevirtual 68) 42 1 0 1004 3, mj_n, mj_n, mj_o (.aload_n 0), mj_q (.getfield 32) 6 0 0 300 0, mj_n, mj_n, mj_o (.aload_n 0), mj_q (.getfield 32) 6 0 0 300 0, mj_n, mj_n, mj_q (.getfield 81) 1 2 0 260 0, mj_n, mj_n, mj_o (.aload_n 0), mj_q (.getfield 22) 6 3 0 305 0, mj_n, mj_n, mj_o (.iconst 1), mj_q (.invokevirtual 94) 20 4 0 1005 1, mj_n, mj_n, mj_o (.aload_n 0), mj_q (.getfield 32) 6 0 0 300 0, mj_n, mj_n, mj_o (.aload_n 0), mj_q (.getfield 32) 6 0 0 300 0, mj_n, mj_n, mj_q (.getfield 81) 1 2 0 260 0, mj_n, mj_n, mj_o (.aload_n 0), mj_q (.getfield 26) 6 4 0 306 0, mj_n, mj_n, mj_o (.iload 4), mj_n, mj_q (.invokevirtual 94) 20 4 0 1005 1, mj_n, mj_n, mj_o (.aload_n 3), mj_o (.aload_n 0), mj_q (.getfield 32) 6 0 0 300 0, mj_n, mj_n, mj_q (.getfield 81) 1 2 0 260 0, mj_n, mj_n, mj_q (.invokevirtual 87) 41 2 0 1002 3, mj_n, mj_n, mj_o (.aload_n 2), mj_q (.invokevirtual 98) 37 1 0 1046 3, mj_n, mj_n, mj_q (.getfield 101) 8 2 0 207 1, mj_n]
def mj_l71_1 : List (Option mj_I) := [mj_n, mj_q (.ifCond .gt 10) 131 0 0 0 0, mj_n, mj_n, mj_o (.iload 4), mj_n, mj_o (.iconst 2), mj_o .irem, mj_q (.ifCond .eq 7) 135 0 0 0 0, mj_n, mj_n, mj_o (.aload_n 3), mj_q (.invokevirtual 104) 43 1 0 1047 3, mj_n, mj_n, mj_o (.aload_n 0), mj_q (.getfield 22) 6 3 0 305 0, mj_n, mj_n, mj_o (.aload_n 2), mj_q (.invokevirtual 98) 37 1 0 1046 3, mj_n, mj_n, mj_q (.invokevirtual 107) 88 2 0 1051 8, mj_n, mj_n, mj_o (.iload 4), mj_n, mj_q (.ifCond .le 9) 157 0 0 0 0, mj_n, mj_n, mj_o (.aload_n 0), mj_o (.iload 4), mj_n, mj_q (.invokevirtual 110) 72 2 0 1055 6, mj_n, mj_n, mj_o .return_]
def mj_l71 : List (Option mj_I) := mj_l71_0 ++ (mj_l71_1)
def mj_m71 : mj_M := (⟨"PolyRegisters$Sturm", "makeNext", "(LPolyRegisters$Poly;LPolyRegisters$Poly;LPolyRegisters$Poly;)V"⟩, prog_8_method_5_code, 6, none, mj_look mj_l71, [], 1, 1001, 115, 1000, 22)
-- 72: PolyRegisters$Sturm.renewKnown(I)V
def mj_l72 : List (Option mj_I) := [mj_o (.aload_n 0), mj_q (.getfield 32) 6 0 0 300 0, mj_n, mj_n, mj_q (.getfield 113) 1 4 0 263 0, mj_n, mj_n, mj_o (.astore_n 2), mj_o (.aload_n 2), mj_o (.aload_n 0), mj_q (.getfield 22) 6 3 0 305 0, mj_n, mj_n, mj_q (.invokevirtual 60) 87 2 0 1059 8, mj_n, mj_n, mj_o (.iconst 1), mj_o (.istore_n 3), mj_o (.iload_n 3), mj_o (.iload_n 1), mj_q (.if_icmp .ge 35) 55 0 0 0 0, mj_n, mj_n, mj_o (.aload_n 0), mj_q (.getfield 32) 6 0 0 300 0, mj_n, mj_n, mj_q (.getfield 116) 1 5 0 267 0, mj_n, mj_n, mj_o (.aload_n 2), mj_o (.aload_n 0), mj_q (.getfield 22) 6 3 0 305 0, mj_n, mj_n, mj_q (.invokevirtual 119) 95 3 0 1060 8, mj_n, mj_n, mj_o (.aload_n 2), mj_o (.aload_n 0), mj_q (.getfield 32) 6 0 0 300 0, mj_n, mj_n, mj_q (.getfield 116) 1 5 0 267 0, mj_n, mj_n, mj_q (.invokevirtual 60) 87 2 0 1059 8, mj_n, mj_n, mj_o (.iinc 3 1), mj_n, mj_n, mj_q (.goto (-34)) 18 0 0 0 0, mj_n, mj_n, mj_o (.aload_n 0), mj_q (.getfield 32) 6 0 0 300 0, mj_n, mj_n, mj_q (.getfield 123) 1 7 0 271 0, mj_n, mj_n, mj_o (.aload_n 0), mj_q (.getfield 26) 6 4 0 306 0, mj_n, mj_n, mj_q (.invokevirtual 127) 30 2 0 1061 2, mj_n, mj_n, mj_o (.iconst 1), mj_o (.istore_n 3), mj_o (.iload_n 3), mj_o (.iload_n 1), mj_q (.if_icmp .ge 38) 111 0 0 0 0, mj_n, mj_n, mj_o (.aload_n 0), mj_q (.getfield 32) 6 0 0 300 0, mj_n, mj_n, mj_q (.getfield 123) 1 7 0 271 0, mj_n, mj_n, mj_o (.aload_n 2), mj_o (.aload_n 0), mj_q (.getfield 32) 6 0 0 300 0, mj_n, mj_n, mj_q (.getfield 116) 1 5 0 267 0, mj_n, mj_n, mj_q (.invokevirtual 132) 31 3 0 1062 2, mj_n, mj_n, mj_o (.aload_n 2), mj_o (.aload_n 0), mj_q (.getfield 32) 6 0 0 300 0, mj_n, mj_n, mj_q (.getfield 116) 1 5 0 267 0, mj_n, mj_n, mj_q (.invokevirtual 60) 87 2 0 1059 8, mj_n, mj_n, mj_o (.iinc 3 1), mj_n, mj_n, mj_q (.goto (-37)) 71 0 0 0 0, mj_n, mj_n, mj_o (.aload_n 0), mj_q (.getfield 26) 6 4 0 306 0, mj_n, mj_n, mj_o (.aload_n 2), mj_q (.invokevirtual 60) 87 2 0 1059 8, mj_n, mj_n, mj_o .return_]
def mj_m72 : mj_M := (⟨"PolyRegisters$Sturm", "renewKnown", "(I)V"⟩, prog_8_method_6_code, 4, none, mj_look mj_l72, [], 1, 1058, 115, 1057, 26)
-- 73: PolyRegisters$Sturm.last()LPolyRegisters$Poly;
def mj_l73 : List (Option mj_I) := [mj_o (.aload_n 0), mj_q (.getfield 11) 6 1 0 301 0, mj_n, mj_n, mj_o (.aload_n 0), mj_q (.getfield 71) 6 2 0 303 0, mj_n, mj_n, mj_q (.ifCond .le 24) 32 0 0 0 0, mj_n, mj_n, mj_o (.aload_n 0), mj_q (.getfield 71) 6 2 0 303 0, mj_n, mj_n, mj_o (.aload_n 0), mj_q (.getfield 11) 6 1 0 301 0, mj_n, mj_n, mj_o .arraylength, mj_q (.if_icmp .gt 12) 32 0 0 0 0, mj_n, mj_n, mj_o (.aload_n 0), mj_q (.getfield 71) 6 2 0 303 0, mj_n, mj_n, mj_o (.iconst 1), mj_o .isub, mj_q (.goto 4) 33 0 0 0 0, mj_n, mj_n, mj_o (.iconst 0), mj_o .aaload, mj_o .areturn]
def mj_m73 : mj_M := (⟨"PolyRegisters$Sturm", "last", "()LPolyRegisters$Poly;"⟩, prog_8_method_7_code, 1, some (FieldType.object "PolyRegisters$Poly"), mj_look mj_l73, [], 1, 1066, 115, 1064, 1065)
-- 74: PolyRegisters$Sturm.stretch(J)V
def mj_l74 : List (Option mj_I) := [mj_o (.iconst 0), mj_o (.istore_n 3), mj_o (.iload_n 3), mj_o (.aload_n 0), mj_q (.getfield 71) 6 2 0 303 0, mj_n, mj_n, mj_q (.if_icmp .ge 32) 39 0 0 0 0, mj_n, mj_n, mj_o (.iload_n 3), mj_o (.aload_n 0), mj_q (.getfield 11) 6 1 0 301 0, mj_n, mj_n, mj_o .arraylength, mj_q (.if_icmp .ge 23) 39 0 0 0 0, mj_n, mj_n, mj_o (.aload_n 0), mj_q (.getfield 32) 6 0 0 300 0, mj_n, mj_n, mj_o (.aload_n 0), mj_q (.getfield 11) 6 1 0 301 0, mj_n, mj_n, mj_o (.iload_n 3), mj_o .aaload, mj_o (.lload_n 1), mj_q (.invokevirtual 135) 26 3 0 1335 1, mj_n, mj_n, mj_o (.iinc 3 1), mj_n, mj_n, mj_q (.goto (-34)) 2 0 0 0 0, mj_n, mj_n, mj_o .return_]
def mj_m74 : mj_M := (⟨"PolyRegisters$Sturm", "stretch", "(J)V"⟩, prog_8_method_8_code, 4, none, mj_look mj_l74, [], 1, 1334, 115, 1332, 1333)
-- 75: PolyRegisters$Sturm.changesAt(J)I
def mj_l75 : List (Option mj_I) := [mj_o (.aload_n 0), mj_q (.getfield 29) 6 5 0 307 0, mj_n, mj_n, mj_o (.lload_n 1), mj_q (.invokevirtual 74) 86 2 0 997 8, mj_n, mj_n, mj_o (.aload_n 0), mj_o (.aload_n 0), mj_q (.getfield 29) 6 5 0 307 0, mj_n, mj_n, mj_q (.invokevirtual 139) 76 2 0 1340 6, mj_n, mj_n, mj_o .ireturn]
def mj_m75 : mj_M := (⟨"PolyRegisters$Sturm", "changesAt", "(J)I"⟩, prog_8_method_9_code, 3, some FieldType.int, mj_look mj_l75, [], 1, 1339, 115, 1337, 1338)
-- 76: PolyRegisters$Sturm.changesAt(LPolyRegisters$Wide;)I
def mj_l76 : List (Option mj_I) := [mj_o (.iconst 0), mj_o (.istore_n 2), mj_o (.iconst 0), mj_o (.istore_n 3), mj_o (.iconst 0), mj_o (.istore 4), mj_n, mj_o (.iload 4), mj_n, mj_o (.aload_n 0), mj_q (.getfield 71) 6 2 0 303 0, mj_n, mj_n, mj_q (.if_icmp .ge 63) 76 0 0 0 0, mj_n, mj_n, mj_o (.iload 4), mj_n, mj_o (.aload_n 0), mj_q (.getfield 11) 6 1 0 301 0, mj_n, mj_n, mj_o .arraylength, mj_q (.if_icmp .ge 53) 76 0 0 0 0, mj_n, mj_n, mj_o (.aload_n 0), mj_q (.getfield 32) 6 0 0 300 0, mj_n, mj_n, mj_o (.aload_n 0), mj_q (.getfield 11) 6 1 0 301 0, mj_n, mj_n, mj_o (.iload 4), mj_n, mj_o .aaload, mj_o (.aload_n 1), mj_q (.invokevirtual 143) 28 3 0 1344 1, mj_n, mj_n, mj_o (.istore 5), mj_n, mj_o (.iload_n 2), mj_o (.iload 5), mj_n, mj_o (.iload_n 3), mj_o .imul, mj_q (.ifCond .ge 7) 55 0 0 0 0, mj_n, mj_n, mj_o (.iconst 1), mj_q (.goto 4) 56 0 0 0 0, mj_n, mj_n, mj_o (.iconst 0), mj_o .iadd, mj_o (.istore_n 2), mj_o (.iload 5), mj_n, mj_q (.ifCond .ne 7) 67 0 0 0 0, mj_n, mj_n, mj_o (.iload_n 3), mj_q (.goto 5) 69 0 0 0 0, mj_n, mj_n, mj_o (.iload 5), mj_n, mj_o (.istore_n 3), mj_o (.iinc 4 1), mj_n, mj_n, mj_q (.goto (-66)) 7 0 0 0 0, mj_n, mj_n, mj_o (.iload_n 2), mj_o .ireturn]
def mj_m76 : mj_M := (⟨"PolyRegisters$Sturm", "changesAt", "(LPolyRegisters$Wide;)I"⟩, prog_8_method_10_code, 6, some FieldType.int, mj_look mj_l76, [], 1, 1343, 115, 1341, 1342)
-- 77: PolyRegisters$Sturm.changesFar(I)I
def mj_l77 : List (Option mj_I) := [mj_o (.iconst 0), mj_o (.istore_n 2), mj_o (.iconst 0), mj_o (.istore_n 3), mj_o (.iconst 0), mj_o (.istore 4), mj_n, mj_o (.iload 4), mj_n, mj_o (.aload_n 0), mj_q (.getfield 71) 6 2 0 303 0, mj_n, mj_n, mj_q (.if_icmp .ge 73) 86 0 0 0 0, mj_n, mj_n, mj_o (.iload 4), mj_n, mj_o (.aload_n 0), mj_q (.getfield 11) 6 1 0 301 0, mj_n, mj_n, mj_o .arraylength, mj_q (.if_icmp .ge 63) 86 0 0 0 0, mj_n, mj_n, mj_o (.aload_n 0), mj_q (.getfield 11) 6 1 0 301 0, mj_n, mj_n, mj_o (.iload 4), mj_n, mj_o .aaload, mj_q (.invokevirtual 98) 37 1 0 1046 3, mj_n, mj_n, mj_q (.getfield 101) 8 2 0 207 1, mj_n, mj_n, mj_o (.aload_n 0), mj_q (.getfield 11) 6 1 0 301 0, mj_n, mj_n, mj_o (.iload 4), mj_n, mj_o .aaload, mj_q (.getfield 52) 3 2 0 223 0, mj_n, mj_n, mj_o (.iconst 2), mj_o .irem, mj_q (.ifCond .eq 7) 58 0 0 0 0, mj_n, mj_n, mj_o (.iload_n 1), mj_q (.goto 4) 59 0 0 0 0, mj_n, mj_n, mj_o (.iconst 1), mj_o .imul, mj_o (.istore 5), mj_n, mj_o (.iload_n 2), mj_o (.iload 5), mj_n, mj_o (.iload_n 3), mj_o .imul, mj_q (.ifCond .ge 7) 74 0 0 0 0, mj_n, mj_n, mj_o (.iconst 1), mj_q (.goto 4) 75 0 0 0 0, mj_n, mj_n, mj_o (.iconst 0), mj_o .iadd, mj_o (.istore_n 2), mj_o (.iload 5), mj_n, mj_o (.istore_n 3), mj_o (.iinc 4 1), mj_n, mj_n, mj_q (.goto (-76)) 7 0 0 0 0, mj_n, mj_n, mj_o (.iload_n 2), mj_o .ireturn]
def mj_m77 : mj_M := (⟨"PolyRegisters$Sturm", "changesFar", "(I)I"⟩, prog_8_method_11_code, 6, some FieldType.int, mj_look mj_l77, [], 1, 1323, 115, 1321, 1322)
-- 78: PolyRegisters$Text.<init>(I)V
def mj_l78 : List (Option mj_I) := [mj_o (.aload_n 0), mj_q (.invokespecial 3) 0 0 5 170 0, mj_n, mj_n, mj_o (.aload_n 0), mj_o (.iload_n 1), mj_q (.ifCond .le 7) 13 0 0 0 0, mj_n, mj_n, mj_o (.iload_n 1), mj_q (.goto 4) 14 0 0 0 0, mj_n, mj_n, mj_o (.iconst 0), mj_q (.newarray .byte) 2 0 0 180 0, mj_n, mj_q (.putfield 9) 7 0 3 171 0, mj_n, mj_n, mj_o .return_]
def mj_m78 : mj_M := (⟨"PolyRegisters$Text", "<init>", "(I)V"⟩, prog_9_method_1_code, 2, none, mj_look mj_l78, [], 2, 169, 110, 168, 0)
-- 79: PolyRegisters$Text.at(I)I
def mj_l79 : List (Option mj_I) := [mj_o (.iload_n 1), mj_q (.ifCond .lt 33) 34 0 0 0 0, mj_n, mj_n, mj_o (.iload_n 1), mj_o (.aload_n 0), mj_q (.getfield 15) 7 1 0 172 0, mj_n, mj_n, mj_q (.if_icmp .ge 25) 34 0 0 0 0, mj_n, mj_n, mj_o (.iload_n 1), mj_o (.aload_n 0), mj_q (.getfield 9) 7 0 0 171 0, mj_n, mj_n, mj_o .arraylength, mj_q (.if_icmp .ge 16) 34 0 0 0 0, mj_n, mj_n, mj_o (.aload_n 0), mj_q (.getfield 9) 7 0 0 171 0, mj_n, mj_n, mj_o (.iload_n 1), mj_o .baload, mj_o (.sipush 255), mj_n, mj_n, mj_o .iand, mj_q (.goto 4) 35 0 0 0 0, mj_n, mj_n, mj_o (.iconst (-1)), mj_o .ireturn]
def mj_m79 : mj_M := (⟨"PolyRegisters$Text", "at", "(I)I"⟩, prog_9_method_2_code, 2, some FieldType.int, mj_look mj_l79, [], 1, 665, 110, 663, 664)
-- 80: PolyRegisters$Text.put(I)V
def mj_l80 : List (Option mj_I) := [mj_o (.aload_n 0), mj_q (.getfield 15) 7 1 0 172 0, mj_n, mj_n, mj_q (.ifCond .lt 36) 40 0 0 0 0, mj_n, mj_n, mj_o (.aload_n 0), mj_q (.getfield 15) 7 1 0 172 0, mj_n, mj_n, mj_o (.aload_n 0), mj_q (.getfield 9) 7 0 0 171 0, mj_n, mj_n, mj_o .arraylength, mj_q (.if_icmp .ge 24) 40 0 0 0 0, mj_n, mj_n, mj_o (.aload_n 0), mj_q (.getfield 9) 7 0 0 171 0, mj_n, mj_n, mj_o (.aload_n 0), mj_q (.getfield 15) 7 1 0 172 0, mj_n, mj_n, mj_o (.iload_n 1), mj_o .i2b, mj_o .bastore, mj_o (.aload_n 0), mj_o .dup, mj_q (.getfield 15) 7 1 0 172 0, mj_n, mj_n, mj_o (.iconst 1), mj_o .iadd, mj_q (.putfield 15) 7 1 0 172 0, mj_n, mj_n, mj_o .return_]
def mj_m80 : mj_M := (⟨"PolyRegisters$Text", "put", "(I)V"⟩, prog_9_method_3_code, 2, none, mj_look mj_l80, [], 1, 633, 110, 632, 9)
-- 81: PolyRegisters$Text.putBytes(I)V
def mj_l81 : List (Option mj_I) := [mj_o (.bipush 24), mj_n, mj_o (.istore_n 2), mj_o (.iload_n 2), mj_q (.ifCond .lt 26) 30 0 0 0 0, mj_n, mj_n, mj_o (.iload_n 1), mj_o (.iload_n 2), mj_o .ishr, mj_o (.sipush 255), mj_n, mj_n, mj_o .iand, mj_o (.istore_n 3), mj_o (.iload_n 3), mj_q (.ifCond .eq 8) 24 0 0 0 0, mj_n, mj_n, mj_o (.aload_n 0), mj_o (.iload_n 3), mj_q (.invokevirtual 19) 80 2 0 630 7, mj_n, mj_n, mj_o (.iinc 2 (-8)), mj_n, mj_n, mj_q (.goto (-24)) 3 0 0 0 0, mj_n, mj_n, mj_o .return_]
def mj_m81 : mj_M := (⟨"PolyRegisters$Text", "putBytes", "(I)V"⟩, prog_9_method_4_code, 4, none, mj_look mj_l81, [], 1, 1451, 110, 1449, 1450)
-- 82: PolyRegisters$Text.setRow([J)V
def mj_l82 : List (Option mj_I) := [mj_o (.aload_n 0), mj_o (.iconst 0), mj_q (.putfield 15) 7 1 0 172 0, mj_n, mj_n, mj_o (.aload_n 1), mj_o .arraylength, mj_o (.iconst 1), mj_o .isub, mj_o (.istore_n 2), mj_o (.iload_n 2), mj_q (.ifCond .lt 25) 36 0 0 0 0, mj_n, mj_n, mj_o (.aload_n 1), mj_o (.iload_n 2), mj_o .laload, mj_o (.lconst 0), mj_o .lcmp, mj_q (.ifCond .eq 11) 30 0 0 0 0, mj_n, mj_n, mj_o (.aload_n 0), mj_o (.aload_n 1), mj_o (.iload_n 2), mj_o .laload, mj_o (.iload_n 2), mj_q (.invokevirtual 23) 83 3 0 626 7, mj_n, mj_n, mj_o (.iinc 2 (-1)), mj_n, mj_n, mj_q (.goto (-23)) 10 0 0 0 0, mj_n, mj_n, mj_o (.aload_n 0), mj_q (.getfield 15) 7 1 0 172 0, mj_n, mj_n, mj_q (.ifCond .ne 9) 49 0 0 0 0, mj_n, mj_n, mj_o (.aload_n 0), mj_o (.bipush 48), mj_n, mj_q (.invokevirtual 19) 80 2 0 630 7, mj_n, mj_n, mj_o .return_]
def mj_m82 : mj_M := (⟨"PolyRegisters$Text", "setRow", "([J)V"⟩, prog_9_method_5_code, 3, none, mj_look mj_l82, [], 1, 625, 110, 623, 624)
-- 83: PolyRegisters$Text.putTerm(JI)V
def mj_l83_0 : List (Option mj_I) := [mj_o (.aload_n 0), mj_q (.getfield 15) 7 1 0 172 0, mj_n, mj_n, mj_q (.ifCond .ne 7) 11 0 0 0 0, mj_n, mj_n, mj_o (.iconst 1), mj_q (.goto 4) 12 0 0 0 0, mj_n, mj_n, mj_o (.iconst 0), mj_o (.istore 4), mj_n, mj_o (.iload 4), mj_n, mj_q (.ifCond .ne 9) 25 0 0 0 0, mj_n, mj_n, mj_o (.aload_n 0), mj_o (.bipush 32), mj_n, mj_q (.invokevirtual 19) 80 2 0 630 7, mj_n, mj_n, mj_o (.lload_n 1), mj_o (.lconst 0), mj_o .lcmp, mj_q (.ifCond .ge 12) 40 0 0 0 0, mj_n, mj_n, mj_o (.aload_n 0), mj_o (.bipush 45), mj_n, mj_q (.invokevirtual 19) 80 2 0 630 7, mj_n, mj_n, mj_q (.goto 14) 51 0 0 0 0, mj_n, mj_n, mj_o (.iload 4), mj_n, mj_q (.ifCond .ne 9) 51 0 0 0 0, mj_n, mj_n, mj_o (.aload_n 0), mj_o (.bipush 43), mj_n, mj_q (.invokevirtual 19) 80 2 0 630 7, mj_n, mj_n, mj_o (.iload 4), mj_n, mj_q (.ifCond .ne 9) 62 0 0 0 0, mj_n, mj_n, mj_o (.aload_n 0), mj_o (.bipush 32), mj_n, mj_q (.invokevirtual 19) 80 2 0 630 7, mj_n, mj_n, mj_o (.lload_n 1), mj_o (.lconst 0), mj_o .lcmp, mj_q (.ifCond .ge 8) 73 0 0 0 0, mj_n, mj_n, mj_o (.lload_n 1), mj_o .lneg, mj_q (.goto 4) 74 0 0 0 0, mj_n, mj_n, mj_o (.lload_n 1), mj_o (.lstore 5), mj_n, mj_o (.lload 5), mj_n, mj_o (.lconst 1), mj_o .lcmp, mj_q (.ifCond .ne 7) 87 0 0 0 0, mj_n, mj_n, mj_o (.iload_n 3), mj_q (.ifCond .ne 9) 93 0 0 0 0, mj_n, mj_n, mj_o (.aload_n 0), mj_o (.lload 5), mj_n, mj_q (.invokevirtual 27) 84 2 0 634 7, mj_n, mj_n, mj_o (.lload 5), mj_n, mj_o (.lconst 1), mj_o .lcmp, mj_q (.ifCond .eq 13) 110 0 0 0 0, mj_n, mj_n, mj_o (.iload_n 3), mj_q (.ifCond .le 9) 110 0 0 0 0, mj_n, mj_n, mj_o (.aload_n 0), mj_o (.bipush 42), mj_n, mj_q (.invokevirtual 19) 80 2 0 630 7, mj_n, mj_n, mj_o (.iload_n 3), mj_q (.ifCond .le 9) 120 0 0 0 0, mj_n, mj_n, mj_o (.aload_n 0), mj_o (.bipush 120), mj_n, mj_q (.invokevirtual 19) 80 2 0 630 7, mj_n, mj_n]
def mj_l83_1 : List (Option mj_I) := [mj_o (.iload_n 3), mj_o (.iconst 1), mj_q (.if_icmp .le 15) 137 0 0 0 0, mj_n, mj_n, mj_o (.aload_n 0), mj_o (.bipush 94), mj_n, mj_q (.invokevirtual 19) 80 2 0 630 7, mj_n, mj_n, mj_o (.aload_n 0), mj_o (.iload_n 3), mj_o .i2l, mj_q (.invokevirtual 27) 84 2 0 634 7, mj_n, mj_n, mj_o .return_]
def mj_l83 : List (Option mj_I) := mj_l83_0 ++ (mj_l83_1)
def mj_m83 : mj_M := (⟨"PolyRegisters$Text", "putTerm", "(JI)V"⟩, prog_9_method_6_code, 7, none, mj_look mj_l83, [], 1, 629, 110, 628, 8)
-- 84: PolyRegisters$Text.putNumber(J)V
def mj_l84 : List (Option mj_I) := [mj_o (.lconst 1), mj_o (.lstore_n 3), mj_o (.iconst 0), mj_o (.istore 5), mj_n, mj_o (.iload 5), mj_n, mj_o (.bipush 18), mj_n, mj_q (.if_icmp .ge 25) 34 0 0 0 0, mj_n, mj_n, mj_o (.lload_n 1), mj_o (.lload_n 3), mj_o .ldiv, mj_q (.ldc2_w 31) 10 0 0 638 0, mj_n, mj_n, mj_o .lcmp, mj_q (.ifCond .lt 15) 34 0 0 0 0, mj_n, mj_n, mj_o (.lload_n 3), mj_q (.ldc2_w 31) 10 0 0 638 0, mj_n, mj_n, mj_o .lmul, mj_o (.lstore_n 3), mj_o (.iinc 5 1), mj_n, mj_n, mj_q (.goto (-26)) 5 0 0 0 0, mj_n, mj_n, mj_o (.iconst 0), mj_o (.istore 5), mj_n, mj_o (.iload 5), mj_n, mj_o (.bipush 19), mj_n, mj_q (.if_icmp .ge 37) 78 0 0 0 0, mj_n, mj_n, mj_o (.lload_n 3), mj_o (.lconst 0), mj_o .lcmp, mj_q (.ifCond .le 31) 78 0 0 0 0, mj_n, mj_n, mj_o (.aload_n 0), mj_q (.ldc2_w 33) 48 0 0 639 0, mj_n, mj_n, mj_o (.lload_n 1), mj_o (.lload_n 3), mj_o .ldiv, mj_q (.ldc2_w 31) 10 0 0 638 0, mj_n, mj_n, mj_o .lrem, mj_o .ladd, mj_o .l2i, mj_q (.invokevirtual 19) 80 2 0 630 7, mj_n, mj_n, mj_o (.lload_n 3), mj_q (.ldc2_w 31) 10 0 0 638 0, mj_n, mj_n, mj_o .ldiv, mj_o (.lstore_n 3), mj_o (.iinc 5 1), mj_n, mj_n, mj_q (.goto (-38)) 37 0 0 0 0, mj_n, mj_n, mj_o .return_]
def mj_m84 : mj_M := (⟨"PolyRegisters$Text", "putNumber", "(J)V"⟩, prog_9_method_7_code, 6, none, mj_look mj_l84, [], 1, 637, 110, 636, 10)
-- 85: PolyRegisters$Wide.<init>(I)V
def mj_l85 : List (Option mj_I) := [mj_o (.aload_n 0), mj_q (.invokespecial 1) 0 0 5 198 0, mj_n, mj_n, mj_o (.aload_n 0), mj_o (.iload_n 1), mj_q (.ifCond .le 7) 13 0 0 0 0, mj_n, mj_n, mj_o (.iload_n 1), mj_q (.goto 4) 14 0 0 0 0, mj_n, mj_n, mj_o (.iconst 1), mj_q (.newarray .int) 0 0 0 163 0, mj_n, mj_q (.putfield 7) 8 0 3 199 0, mj_n, mj_n, mj_o .return_]
def mj_m85 : mj_M := (⟨"PolyRegisters$Wide", "<init>", "(I)V"⟩, prog_10_method_1_code, 2, none, mj_look mj_l85, [], 2, 197, 113, 196, 0)
-- 86: PolyRegisters$Wide.setLong(J)V
def mj_l86 : List (Option mj_I) := [mj_o (.lload_n 1), mj_o (.lstore_n 3), mj_o (.aload_n 0), mj_o (.iconst 0), mj_q (.putfield 13) 8 1 0 201 0, mj_n, mj_n, mj_o (.iconst 0), mj_o (.istore 5), mj_n, mj_o (.iload 5), mj_n, mj_o (.aload_n 0), mj_q (.getfield 7) 8 0 0 199 0, mj_n, mj_n, mj_o .arraylength, mj_q (.if_icmp .ge 57) 74 0 0 0 0, mj_n, mj_n, mj_o (.lload_n 3), mj_o (.lconst 0), mj_o .lcmp, mj_q (.ifCond .eq 51) 74 0 0 0 0, mj_n, mj_n, mj_o (.lload_n 3), mj_q (.ldc2_w 17) 1000000000 0 0 333 0, mj_n, mj_n, mj_o .lrem, mj_o .l2i, mj_o (.istore 6), mj_n, mj_o (.aload_n 0), mj_q (.getfield 7) 8 0 0 199 0, mj_n, mj_n, mj_o (.iload 5), mj_n, mj_o (.iload 6), mj_n, mj_q (.ifCond .ge 9) 51 0 0 0 0, mj_n, mj_n, mj_o (.iload 6), mj_n, mj_o .ineg, mj_q (.goto 5) 53 0 0 0 0, mj_n, mj_n, mj_o (.iload 6), mj_n, mj_o .iastore, mj_o (.lload_n 3), mj_q (.ldc2_w 17) 1000000000 0 0 333 0, mj_n, mj_n, mj_o .ldiv, mj_o (.lstore_n 3), mj_o (.aload_n 0), mj_o (.iload 5), mj_n, mj_o (.iconst 1), mj_o .iadd, mj_q (.putfield 13) 8 1 0 201 0, mj_n, mj_n, mj_o (.iinc 5 1), mj_n, mj_n, mj_q (.goto (-61)) 10 0 0 0 0, mj_n, mj_n, mj_o (.aload_n 0), mj_o (.lload_n 1), mj_o (.lconst 0), mj_o .lcmp, mj_q (.ifCond .ge 7) 85 0 0 0 0, mj_n, mj_n, mj_o (.iconst (-1)), mj_q (.goto 14) 96 0 0 0 0, mj_n, mj_n, mj_o (.lload_n 1), mj_o (.lconst 0), mj_o .lcmp, mj_q (.ifCond .le 7) 95 0 0 0 0, mj_n, mj_n, mj_o (.iconst 1), mj_q (.goto 4) 96 0 0 0 0, mj_n, mj_n, mj_o (.iconst 0), mj_q (.putfield 19) 8 2 0 205 0, mj_n, mj_n, mj_o .return_]
def mj_m86 : mj_M := (⟨"PolyRegisters$Wide", "setLong", "(J)V"⟩, prog_10_method_2_code, 7, none, mj_look mj_l86, [], 1, 332, 113, 330, 331)
-- 87: PolyRegisters$Wide.set(LPolyRegisters$Wide;)V
def mj_l87 : List (Option mj_I) := [mj_o (.aload_n 0), mj_o (.aload_n 1), mj_q (.getfield 13) 8 1 0 201 0, mj_n, mj_n, mj_o (.aload_n 0), mj_q (.getfield 7) 8 0 0 199 0, mj_n, mj_n, mj_o .arraylength, mj_o (.aload_n 1), mj_q (.getfield 7) 8 0 0 199 0, mj_n, mj_n, mj_o .arraylength, mj_q (.invokestatic 22) 0 0 3 594 0, mj_n, mj_n, mj_q (.invokestatic 22) 0 0 3 594 0, mj_n, mj_n, mj_q (.putfield 13) 8 1 0 201 0, mj_n, mj_n, mj_o (.iconst 0), mj_o (.istore_n 2), mj_o (.iload_n 2), mj_o (.aload_n 0), mj_q (.getfield 13) 8 1 0 201 0, mj_n, mj_n, mj_q (.if_icmp .ge 21) 52 0 0 0 0, mj_n, mj_n, mj_o (.aload_n 0), mj_q (.getfield 7) 8 0 0 199 0, mj_n, mj_n, mj_o (.iload_n 2), mj_o (.aload_n 1), mj_q (.getfield 7) 8 0 0 199 0, mj_n, mj_n, mj_o (.iload_n 2), mj_o .iaload, mj_o .iastore, mj_o (.iinc 2 1), mj_n, mj_n, mj_q (.goto (-23)) 26 0 0 0 0, mj_n, mj_n, mj_o (.aload_n 0), mj_o (.aload_n 0), mj_q (.getfield 13) 8 1 0 201 0, mj_n, mj_n, mj_q (.ifCond .ne 7) 64 0 0 0 0, mj_n, mj_n, mj_o (.iconst 0), mj_q (.goto 7) 68 0 0 0 0, mj_n, mj_n, mj_o (.aload_n 1), mj_q (.getfield 19) 8 2 0 205 0, mj_n, mj_n, mj_q (.putfield 19) 8 2 0 205 0, mj_n, mj_n, mj_o .return_]
def mj_m87 : mj_M := (⟨"PolyRegisters$Wide", "set", "(LPolyRegisters$Wide;)V"⟩, prog_10_method_3_code, 3, none, mj_look mj_l87, [], 1, 607, 113, 605, 606)
-- 88: PolyRegisters$Wide.setSizeOf(LPolyRegisters$Wide;)V
def mj_l88 : List (Option mj_I) := [mj_o (.aload_n 0), mj_o (.aload_n 1), mj_q (.invokevirtual 28) 87 2 0 604 8, mj_n, mj_n, mj_o (.aload_n 0), mj_o (.aload_n 0), mj_q (.getfield 19) 8 2 0 205 0, mj_n, mj_n, mj_q (.ifCond .ne 7) 17 0 0 0 0, mj_n, mj_n, mj_o (.iconst 0), mj_q (.goto 4) 18 0 0 0 0, mj_n, mj_n, mj_o (.iconst 1), mj_q (.putfield 19) 8 2 0 205 0, mj_n, mj_n, mj_o .return_]
def mj_m88 : mj_M := (⟨"PolyRegisters$Wide", "setSizeOf", "(LPolyRegisters$Wide;)V"⟩, prog_10_method_4_code, 2, none, mj_look mj_l88, [], 1, 1054, 113, 1052, 1053)
-- 89: PolyRegisters$Wide.limbAt(I)I
def mj_l89 : List (Option mj_I) := [mj_o (.iload_n 1), mj_q (.ifCond .lt 29) 30 0 0 0 0, mj_n, mj_n, mj_o (.iload_n 1), mj_o (.aload_n 0), mj_q (.getfield 13) 8 1 0 201 0, mj_n, mj_n, mj_q (.if_icmp .ge 21) 30 0 0 0 0, mj_n, mj_n, mj_o (.iload_n 1), mj_o (.aload_n 0), mj_q (.getfield 7) 8 0 0 199 0, mj_n, mj_n, mj_o .arraylength, mj_q (.if_icmp .ge 12) 30 0 0 0 0, mj_n, mj_n, mj_o (.aload_n 0), mj_q (.getfield 7) 8 0 0 199 0, mj_n, mj_n, mj_o (.iload_n 1), mj_o .iaload, mj_q (.goto 4) 31 0 0 0 0, mj_n, mj_n, mj_o (.iconst 0), mj_o .ireturn]
def mj_m89 : mj_M := (⟨"PolyRegisters$Wide", "limbAt", "(I)I"⟩, prog_10_method_5_code, 2, some FieldType.int, mj_look mj_l89, [], 1, 520, 113, 518, 519)
-- 90: PolyRegisters$Wide.putLimb(II)V
def mj_l90 : List (Option mj_I) := [mj_o (.iload_n 1), mj_q (.ifCond .lt 38) 39 0 0 0 0, mj_n, mj_n, mj_o (.iload_n 1), mj_o (.aload_n 0), mj_q (.getfield 7) 8 0 0 199 0, mj_n, mj_n, mj_o .arraylength, mj_q (.if_icmp .ge 29) 39 0 0 0 0, mj_n, mj_n, mj_o (.aload_n 0), mj_q (.getfield 7) 8 0 0 199 0, mj_n, mj_n, mj_o (.iload_n 1), mj_o (.iload_n 2), mj_o .iastore, mj_o (.iload_n 2), mj_q (.ifCond .eq 18) 39 0 0 0 0, mj_n, mj_n, mj_o (.iload_n 1), mj_o (.aload_n 0), mj_q (.getfield 13) 8 1 0 201 0, mj_n, mj_n, mj_q (.if_icmp .lt 10) 39 0 0 0 0, mj_n, mj_n, mj_o (.aload_n 0), mj_o (.iload_n 1), mj_o (.iconst 1), mj_o .iadd, mj_q (.putfield 13) 8 1 0 201 0, mj_n, mj_n, mj_o .return_]
def mj_m90 : mj_M := (⟨"PolyRegisters$Wide", "putLimb", "(II)V"⟩, prog_10_method_6_code, 3, none, mj_look mj_l90, [], 1, 1041, 113, 1039, 1040)
-- 91: PolyRegisters$Wide.plus(LPolyRegisters$Wide;I)V
def mj_l91 : List (Option mj_I) := [mj_o (.aload_n 1), mj_q (.getfield 19) 8 2 0 205 0, mj_n, mj_n, mj_o (.iload_n 2), mj_o .imul, mj_o (.istore_n 3), mj_o (.iload_n 3), mj_q (.ifCond .ne 4) 12 0 0 0 0, mj_n, mj_n, mj_o .return_, mj_o (.aload_n 0), mj_q (.getfield 19) 8 2 0 205 0, mj_n, mj_n, mj_q (.ifCond .ne 16) 32 0 0 0 0, mj_n, mj_n, mj_o (.aload_n 0), mj_o (.aload_n 1), mj_q (.invokevirtual 28) 87 2 0 604 8, mj_n, mj_n, mj_o (.aload_n 0), mj_o (.iload_n 3), mj_q (.putfield 19) 8 2 0 205 0, mj_n, mj_n, mj_q (.goto 47) 76 0 0 0 0, mj_n, mj_n, mj_o (.aload_n 0), mj_q (.getfield 19) 8 2 0 205 0, mj_n, mj_n, mj_o (.iload_n 3), mj_q (.if_icmp .ne 11) 48 0 0 0 0, mj_n, mj_n, mj_o (.aload_n 0), mj_o (.aload_n 1), mj_q (.invokevirtual 32) 93 2 0 608 8, mj_n, mj_n, mj_q (.goto 31) 76 0 0 0 0, mj_n, mj_n, mj_o (.aload_n 0), mj_o (.aload_n 1), mj_q (.invokevirtual 35) 92 2 0 613 8, mj_n, mj_n, mj_q (.ifCond .eq 17) 70 0 0 0 0, mj_n, mj_n, mj_o (.aload_n 0), mj_o (.aload_n 1), mj_o (.aload_n 0), mj_q (.invokevirtual 39) 94 3 0 617 8, mj_n, mj_n, mj_o (.aload_n 0), mj_o (.iload_n 3), mj_q (.putfield 19) 8 2 0 205 0, mj_n, mj_n, mj_q (.goto 9) 76 0 0 0 0, mj_n, mj_n, mj_o (.aload_n 0), mj_o (.aload_n 0), mj_o (.aload_n 1), mj_q (.invokevirtual 39) 94 3 0 617 8, mj_n, mj_n, mj_o (.aload_n 0), mj_o (.aload_n 0), mj_q (.getfield 13) 8 1 0 201 0, mj_n, mj_n, mj_q (.ifCond .ne 7) 88 0 0 0 0, mj_n, mj_n, mj_o (.iconst 0), mj_q (.goto 7) 92 0 0 0 0, mj_n, mj_n, mj_o (.aload_n 0), mj_q (.getfield 19) 8 2 0 205 0, mj_n, mj_n, mj_q (.putfield 19) 8 2 0 205 0, mj_n, mj_n, mj_o .return_]
def mj_m91 : mj_M := (⟨"PolyRegisters$Wide", "plus", "(LPolyRegisters$Wide;I)V"⟩, prog_10_method_7_code, 4, none, mj_look mj_l91, [], 1, 603, 113, 601, 602)
-- 92: PolyRegisters$Wide.isLess(LPolyRegisters$Wide;)Z
def mj_l92 : List (Option mj_I) := [mj_o (.aload_n 0), mj_q (.getfield 13) 8 1 0 201 0, mj_n, mj_n, mj_o (.aload_n 1), mj_q (.getfield 13) 8 1 0 201 0, mj_n, mj_n, mj_q (.if_icmp .eq 20) 28 0 0 0 0, mj_n, mj_n, mj_o (.aload_n 0), mj_q (.getfield 13) 8 1 0 201 0, mj_n, mj_n, mj_o (.aload_n 1), mj_q (.getfield 13) 8 1 0 201 0, mj_n, mj_n, mj_q (.if_icmp .ge 7) 26 0 0 0 0, mj_n, mj_n, mj_o (.iconst 1), mj_q (.goto 4) 27 0 0 0 0, mj_n, mj_n, mj_o (.iconst 0), mj_o .ireturn, mj_o (.aload_n 0), mj_q (.getfield 13) 8 1 0 201 0, mj_n, mj_n, mj_o (.iconst 1), mj_o .isub, mj_o (.istore_n 2), mj_o (.iload_n 2), mj_q (.ifCond .lt 63) 99 0 0 0 0, mj_n, mj_n, mj_o (.iload_n 2), mj_o (.aload_n 0), mj_q (.getfield 7) 8 0 0 199 0, mj_n, mj_n, mj_o .arraylength, mj_q (.if_icmp .ge 54) 99 0 0 0 0, mj_n, mj_n, mj_o (.iload_n 2), mj_o (.aload_n 1), mj_q (.getfield 7) 8 0 0 199 0, mj_n, mj_n, mj_o .arraylength, mj_q (.if_icmp .ge 45) 99 0 0 0 0, mj_n, mj_n, mj_o (.aload_n 0), mj_q (.getfield 7) 8 0 0 199 0, mj_n, mj_n, mj_o (.iload_n 2), mj_o .iaload, mj_o (.aload_n 1), mj_q (.getfield 7) 8 0 0 199 0, mj_n, mj_n, mj_o (.iload_n 2), mj_o .iaload, mj_q (.if_icmp .eq 24) 93 0 0 0 0, mj_n, mj_n, mj_o (.aload_n 0), mj_q (.getfield 7) 8 0 0 199 0, mj_n, mj_n, mj_o (.iload_n 2), mj_o .iaload, mj_o (.aload_n 1), mj_q (.getfield 7) 8 0 0 199 0, mj_n, mj_n, mj_o (.iload_n 2), mj_o .iaload, mj_q (.if_icmp .ge 7) 91 0 0 0 0, mj_n, mj_n, mj_o (.iconst 1), mj_q (.goto 4) 92 0 0 0 0, mj_n, mj_n, mj_o (.iconst 0), mj_o .ireturn, mj_o (.iinc 2 (-1)), mj_n, mj_n, mj_q (.goto (-61)) 35 0 0 0 0, mj_n, mj_n, mj_o (.iconst 0), mj_o .ireturn]
def mj_m92 : mj_M := (⟨"PolyRegisters$Wide", "isLess", "(LPolyRegisters$Wide;)Z"⟩, prog_10_method_8_code, 3, some FieldType.boolean, mj_look mj_l92, [], 1, 616, 113, 615, 6)
-- 93: PolyRegisters$Wide.gather(LPolyRegisters$Wide;)V
def mj_l93_0 : List (Option mj_I) := [mj_o (.aload_n 0), mj_q (.getfield 13) 8 1 0 201 0, mj_n, mj_n, mj_o (.istore_n 2), mj_o (.aload_n 1), mj_q (.getfield 13) 8 1 0 201 0, mj_n, mj_n, mj_o (.aload_n 1), mj_q (.getfield 7) 8 0 0 199 0, mj_n, mj_n, mj_o .arraylength, mj_q (.invokestatic 22) 0 0 3 594 0, mj_n, mj_n, mj_o (.istore_n 3), mj_o (.iconst 0), mj_o (.istore 4), mj_n, mj_o (.iconst 0), mj_o (.istore 5), mj_n, mj_o (.iload 5), mj_n, mj_o (.aload_n 0), mj_q (.getfield 7) 8 0 0 199 0, mj_n, mj_n, mj_o .arraylength, mj_q (.if_icmp .ge 103) 134 0 0 0 0, mj_n, mj_n, mj_o (.iload 5), mj_n, mj_o (.iload_n 2), mj_q (.if_icmp .lt 14) 51 0 0 0 0, mj_n, mj_n, mj_o (.iload 5), mj_n, mj_o (.iload_n 3), mj_q (.if_icmp .lt 8) 51 0 0 0 0, mj_n, mj_n, mj_o (.iload 4), mj_n, mj_q (.ifCond .le 86) 134 0 0 0 0, mj_n, mj_n, mj_o (.iload 4), mj_n, mj_o (.iload 5), mj_n, mj_o (.iload_n 2), mj_q (.if_icmp .ge 13) 69 0 0 0 0, mj_n, mj_n, mj_o (.aload_n 0), mj_q (.getfield 7) 8 0 0 199 0, mj_n, mj_n, mj_o (.iload 5), mj_n, mj_o .iaload, mj_q (.goto 4) 70 0 0 0 0, mj_n, mj_n, mj_o (.iconst 0), mj_o .iadd, mj_o (.iload 5), mj_n, mj_o (.iload_n 3), mj_q (.if_icmp .ge 13) 87 0 0 0 0, mj_n, mj_n, mj_o (.aload_n 1), mj_q (.getfield 7) 8 0 0 199 0, mj_n, mj_n, mj_o (.iload 5), mj_n, mj_o .iaload, mj_q (.goto 4) 88 0 0 0 0, mj_n, mj_n, mj_o (.iconst 0), mj_o .iadd, mj_o (.istore 6), mj_n, mj_o (.iload 6), mj_n, mj_q (.ldc 43) 1000000000 0 0 612 0, mj_n, mj_q (.if_icmp .lt 7) 102 0 0 0 0, mj_n, mj_n, mj_o (.iconst 1), mj_q (.goto 4) 103 0 0 0 0, mj_n, mj_n, mj_o (.iconst 0), mj_o (.istore 4), mj_n, mj_o (.aload_n 0), mj_q (.getfield 7) 8 0 0 199 0, mj_n, mj_n, mj_o (.iload 5), mj_n, mj_o (.iload 6), mj_n, mj_o (.iload 4), mj_n, mj_q (.ldc 43) 1000000000 0 0 612 0, mj_n, mj_o .imul, mj_o .isub, mj_o .iastore]
def mj_l93_1 : List (Option mj_I) := [mj_o (.aload_n 0), mj_o (.iload 5), mj_n, mj_o (.iconst 1), mj_o .iadd, mj_q (.putfield 13) 8 1 0 201 0, mj_n, mj_n, mj_o (.iinc 5 1), mj_n, mj_n, mj_q (.goto (-107)) 24 0 0 0 0, mj_n, mj_n, mj_o .return_]
def mj_l93 : List (Option mj_I) := mj_l93_0 ++ (mj_l93_1)
def mj_m93 : mj_M := (⟨"PolyRegisters$Wide", "gather", "(LPolyRegisters$Wide;)V"⟩, prog_10_method_9_code, 7, none, mj_look mj_l93, [], 1, 611, 113, 610, 5)
-- 94: PolyRegisters$Wide.differ(LPolyRegisters$Wide;LPolyRegisters$Wide;)V
def mj_l94_0 : List (Option mj_I) := [mj_o (.aload_n 1), mj_q (.getfield 13) 8 1 0 201 0, mj_n, mj_n, mj_o (.aload_n 0), mj_q (.getfield 7) 8 0 0 199 0, mj_n, mj_n, mj_o .arraylength, mj_o (.aload_n 1), mj_q (.getfield 7) 8 0 0 199 0, mj_n, mj_n, mj_o .arraylength, mj_q (.invokestatic 22) 0 0 3 594 0, mj_n, mj_n, mj_q (.invokestatic 22) 0 0 3 594 0, mj_n, mj_n, mj_o (.istore_n 3), mj_o (.aload_n 2), mj_q (.getfield 13) 8 1 0 201 0, mj_n, mj_n, mj_o (.aload_n 2), mj_q (.getfield 7) 8 0 0 199 0, mj_n, mj_n, mj_o .arraylength, mj_q (.invokestatic 22) 0 0 3 594 0, mj_n, mj_n, mj_o (.istore 4), mj_n, mj_o (.iconst 0), mj_o (.istore 5), mj_n, mj_o (.iconst 0), mj_o (.istore 6), mj_n, mj_o (.iconst 0), mj_o (.istore 7), mj_n, mj_o (.iload 7), mj_n, mj_o (.iload_n 3), mj_q (.if_icmp .ge 88) 135 0 0 0 0, mj_n, mj_n, mj_o (.aload_n 1), mj_q (.getfield 7) 8 0 0 199 0, mj_n, mj_n, mj_o (.iload 7), mj_n, mj_o .iaload, mj_o (.iload 6), mj_n, mj_o .isub, mj_o (.iload 7), mj_n, mj_o (.iload 4), mj_n, mj_q (.if_icmp .ge 13) 77 0 0 0 0, mj_n, mj_n, mj_o (.aload_n 2), mj_q (.getfield 7) 8 0 0 199 0, mj_n, mj_n, mj_o (.iload 7), mj_n, mj_o .iaload, mj_q (.goto 4) 78 0 0 0 0, mj_n, mj_n, mj_o (.iconst 0), mj_o .isub, mj_o (.istore 8), mj_n, mj_o (.iload 8), mj_n, mj_q (.ifCond .ge 7) 90 0 0 0 0, mj_n, mj_n, mj_o (.iconst 1), mj_q (.goto 4) 91 0 0 0 0, mj_n, mj_n, mj_o (.iconst 0), mj_o (.istore 6), mj_n, mj_o (.aload_n 0), mj_q (.getfield 7) 8 0 0 199 0, mj_n, mj_n, mj_o (.iload 7), mj_n, mj_o (.iload 8), mj_n, mj_o (.iload 6), mj_n, mj_q (.ldc 43) 1000000000 0 0 612 0, mj_n, mj_o .imul, mj_o .iadd, mj_o .iastore, mj_o (.aload_n 0), mj_q (.getfield 7) 8 0 0 199 0, mj_n, mj_n, mj_o (.iload 7), mj_n, mj_o .iaload, mj_q (.ifCond .eq 10) 125 0 0 0 0, mj_n, mj_n, mj_o (.iload 7), mj_n]
def mj_l94_1 : List (Option mj_I) := [mj_o (.iconst 1), mj_o .iadd, mj_q (.goto 5) 127 0 0 0 0, mj_n, mj_n, mj_o (.iload 5), mj_n, mj_o (.istore 5), mj_n, mj_o (.iinc 7 1), mj_n, mj_n, mj_q (.goto (-88)) 44 0 0 0 0, mj_n, mj_n, mj_o (.aload_n 0), mj_o (.iload 5), mj_n, mj_q (.putfield 13) 8 1 0 201 0, mj_n, mj_n, mj_o .return_]
def mj_l94 : List (Option mj_I) := mj_l94_0 ++ (mj_l94_1)
def mj_m94 : mj_M := (⟨"PolyRegisters$Wide", "differ", "(LPolyRegisters$Wide;LPolyRegisters$Wide;)V"⟩, prog_10_method_10_code, 9, none, mj_look mj_l94, [], 1, 620, 113, 619, 7)
-- 95: PolyRegisters$Wide.setProduct(LPolyRegisters$Wide;LPolyRegisters$Wide;)V
def mj_l95_0 : List (Option mj_I) := [mj_o (.aload_n 1), mj_q (.getfield 13) 8 1 0 201 0, mj_n, mj_n, mj_o (.aload_n 1), mj_q (.getfield 7) 8 0 0 199 0, mj_n, mj_n, mj_o .arraylength, mj_q (.invokestatic 22) 0 0 3 594 0, mj_n, mj_n, mj_o (.istore_n 3), mj_o (.aload_n 2), mj_q (.getfield 13) 8 1 0 201 0, mj_n, mj_n, mj_o (.aload_n 2), mj_q (.getfield 7) 8 0 0 199 0, mj_n, mj_n, mj_o .arraylength, mj_q (.invokestatic 22) 0 0 3 594 0, mj_n, mj_n, mj_o (.istore 4), mj_n, mj_o (.iload_n 3), mj_o (.iload 4), mj_n, mj_o .iadd, mj_o (.aload_n 0), mj_q (.getfield 7) 8 0 0 199 0, mj_n, mj_n, mj_o .arraylength, mj_q (.invokestatic 22) 0 0 3 594 0, mj_n, mj_n, mj_o (.istore 5), mj_n, mj_o (.lconst 0), mj_o (.lstore 6), mj_n, mj_o (.aload_n 0), mj_o (.iconst 0), mj_q (.putfield 13) 8 1 0 201 0, mj_n, mj_n, mj_o (.iconst 0), mj_o (.istore 8), mj_n, mj_o (.iload 8), mj_n, mj_o (.iload 5), mj_n, mj_q (.if_icmp .ge 152) 208 0 0 0 0, mj_n, mj_n, mj_o (.lload 6), mj_n, mj_o (.lstore 9), mj_n, mj_o (.lconst 0), mj_o (.lstore 11), mj_n, mj_o (.iload 8), mj_n, mj_o (.iload_n 3), mj_o (.iconst 1), mj_o .isub, mj_q (.invokestatic 22) 0 0 3 594 0, mj_n, mj_n, mj_o (.istore 13), mj_n, mj_o (.iconst 0), mj_o (.iload 8), mj_n, mj_o (.iload 4), mj_n, mj_o .isub, mj_o (.iconst 1), mj_o .iadd, mj_q (.invokestatic 44) 0 0 2 595 0, mj_n, mj_n, mj_o (.istore 14), mj_n, mj_o (.iload 14), mj_n, mj_o (.iload 13), mj_n, mj_q (.if_icmp .gt 59) 152 0 0 0 0, mj_n, mj_n, mj_o (.lload 9), mj_n, mj_o (.aload_n 1), mj_q (.getfield 7) 8 0 0 199 0, mj_n, mj_n, mj_o (.iload 14), mj_n, mj_o .iaload, mj_o .i2l, mj_o (.aload_n 2), mj_q (.getfield 7) 8 0 0 199 0, mj_n, mj_n, mj_o (.iload 8), mj_n, mj_o (.iload 14), mj_n, mj_o .isub, mj_o .iaload, mj_o .i2l, mj_o .lmul, mj_o .ladd, mj_o (.lstore 9)]
def mj_l95_1 : List (Option mj_I) := [mj_n, mj_o (.lload 9), mj_n, mj_q (.ldc2_w 47) 8000000000000000000 0 0 598 0, mj_n, mj_n, mj_o .lcmp, mj_q (.ifCond .lt 19) 146 0 0 0 0, mj_n, mj_n, mj_o (.lload 9), mj_n, mj_q (.ldc2_w 47) 8000000000000000000 0 0 598 0, mj_n, mj_n, mj_o .lsub, mj_o (.lstore 9), mj_n, mj_o (.lload 11), mj_n, mj_q (.ldc2_w 49) 8000000000 0 0 599 0, mj_n, mj_n, mj_o .ladd, mj_o (.lstore 11), mj_n, mj_o (.iinc 14 1), mj_n, mj_n, mj_q (.goto (-60)) 89 0 0 0 0, mj_n, mj_n, mj_o (.lload 11), mj_n, mj_o (.lload 9), mj_n, mj_q (.ldc2_w 17) 1000000000 0 0 333 0, mj_n, mj_n, mj_o .ldiv, mj_o .ladd, mj_o (.lstore 6), mj_n, mj_o (.aload_n 0), mj_q (.getfield 7) 8 0 0 199 0, mj_n, mj_n, mj_o (.iload 8), mj_n, mj_o (.lload 9), mj_n, mj_q (.ldc2_w 17) 1000000000 0 0 333 0, mj_n, mj_n, mj_o .lrem, mj_o .l2i, mj_o .iastore, mj_o (.aload_n 0), mj_o (.aload_n 0), mj_q (.getfield 7) 8 0 0 199 0, mj_n, mj_n, mj_o (.iload 8), mj_n, mj_o .iaload, mj_q (.ifCond .eq 10) 195 0 0 0 0, mj_n, mj_n, mj_o (.iload 8), mj_n, mj_o (.iconst 1), mj_o .iadd, mj_q (.goto 7) 199 0 0 0 0, mj_n, mj_n, mj_o (.aload_n 0), mj_q (.getfield 13) 8 1 0 201 0, mj_n, mj_n, mj_q (.putfield 13) 8 1 0 201 0, mj_n, mj_n, mj_o (.iinc 8 1), mj_n, mj_n, mj_q (.goto (-153)) 52 0 0 0 0, mj_n, mj_n, mj_o (.aload_n 0), mj_o (.aload_n 0), mj_q (.getfield 13) 8 1 0 201 0, mj_n, mj_n, mj_q (.ifCond .ne 7) 220 0 0 0 0, mj_n, mj_n, mj_o (.iconst 0), mj_q (.goto 12) 229 0 0 0 0, mj_n, mj_n, mj_o (.aload_n 1), mj_q (.getfield 19) 8 2 0 205 0, mj_n, mj_n, mj_o (.aload_n 2), mj_q (.getfield 19) 8 2 0 205 0, mj_n, mj_n, mj_o .imul, mj_q (.putfield 19) 8 2 0 205 0, mj_n, mj_n, mj_o .return_]
def mj_l95 : List (Option mj_I) := mj_l95_0 ++ (mj_l95_1)
def mj_m95 : mj_M := (⟨"PolyRegisters$Wide", "setProduct", "(LPolyRegisters$Wide;LPolyRegisters$Wide;)V"⟩, prog_10_method_11_code, 15, none, mj_look mj_l95, [], 1, 593, 113, 591, 592)
-- 96: PolyRegisters$Wide.scale(J)V
def mj_l96 : List (Option mj_I) := [mj_o (.lconst 0), mj_o (.lstore_n 3), mj_o (.iconst 0), mj_o (.istore 5), mj_n, mj_o (.iload 5), mj_n, mj_o (.aload_n 0), mj_q (.getfield 7) 8 0 0 199 0, mj_n, mj_n, mj_o .arraylength, mj_q (.if_icmp .ge 96) 108 0 0 0 0, mj_n, mj_n, mj_o (.iload 5), mj_n, mj_o (.aload_n 0), mj_q (.getfield 13) 8 1 0 201 0, mj_n, mj_n, mj_q (.if_icmp .lt 9) 30 0 0 0 0, mj_n, mj_n, mj_o (.lload_n 3), mj_o (.lconst 0), mj_o .lcmp, mj_q (.ifCond .le 81) 108 0 0 0 0, mj_n, mj_n, mj_o (.iload 5), mj_n, mj_o (.aload_n 0), mj_q (.getfield 13) 8 1 0 201 0, mj_n, mj_n, mj_q (.if_icmp .ge 16) 52 0 0 0 0, mj_n, mj_n, mj_o (.aload_n 0), mj_q (.getfield 7) 8 0 0 199 0, mj_n, mj_n, mj_o (.iload 5), mj_n, mj_o .iaload, mj_o .i2l, mj_o (.lload_n 1), mj_o .lmul, mj_q (.goto 4) 53 0 0 0 0, mj_n, mj_n, mj_o (.lconst 0), mj_o (.lload_n 3), mj_o .ladd, mj_o (.lstore 6), mj_n, mj_o (.aload_n 0), mj_q (.getfield 7) 8 0 0 199 0, mj_n, mj_n, mj_o (.iload 5), mj_n, mj_o (.lload 6), mj_n, mj_q (.ldc2_w 17) 1000000000 0 0 333 0, mj_n, mj_n, mj_o .lrem, mj_o .l2i, mj_o .iastore, mj_o (.lload 6), mj_n, mj_q (.ldc2_w 17) 1000000000 0 0 333 0, mj_n, mj_n, mj_o .ldiv, mj_o (.lstore_n 3), mj_o (.aload_n 0), mj_o (.iload 5), mj_n, mj_o (.aload_n 0), mj_q (.getfield 13) 8 1 0 201 0, mj_n, mj_n, mj_q (.if_icmp .lt 10) 95 0 0 0 0, mj_n, mj_n, mj_o (.iload 5), mj_n, mj_o (.iconst 1), mj_o .iadd, mj_q (.goto 7) 99 0 0 0 0, mj_n, mj_n, mj_o (.aload_n 0), mj_q (.getfield 13) 8 1 0 201 0, mj_n, mj_n, mj_q (.putfield 13) 8 1 0 201 0, mj_n, mj_n, mj_o (.iinc 5 1), mj_n, mj_n, mj_q (.goto (-100)) 5 0 0 0 0, mj_n, mj_n, mj_o .return_]
def mj_m96 : mj_M := (⟨"PolyRegisters$Wide", "scale", "(J)V"⟩, prog_10_method_12_code, 8, none, mj_look mj_l96, [], 1, 1023, 113, 1021, 1022)
-- 97: PolyRegisters$Wide.cut(J)V
def mj_l97_0 : List (Option mj_I) := [mj_o (.lconst 0), mj_o (.lstore_n 3), mj_o (.iconst 0), mj_o (.istore 5), mj_n, mj_o (.aload_n 0), mj_q (.getfield 13) 8 1 0 201 0, mj_n, mj_n, mj_o (.aload_n 0), mj_q (.getfield 7) 8 0 0 199 0, mj_n, mj_n, mj_o .arraylength, mj_q (.invokestatic 22) 0 0 3 594 0, mj_n, mj_n, mj_o (.iconst 1), mj_o .isub, mj_o (.istore 6), mj_n, mj_o (.iload 6), mj_n, mj_q (.ifCond .lt 74) 97 0 0 0 0, mj_n, mj_n, mj_o (.lload_n 1), mj_o (.lconst 0), mj_o .lcmp, mj_q (.ifCond .le 68) 97 0 0 0 0, mj_n, mj_n, mj_o (.lload_n 3), mj_q (.ldc2_w 17) 1000000000 0 0 333 0, mj_n, mj_n, mj_o .lmul, mj_o (.aload_n 0), mj_q (.getfield 7) 8 0 0 199 0, mj_n, mj_n, mj_o (.iload 6), mj_n, mj_o .iaload, mj_o .i2l, mj_o .ladd, mj_o (.lstore 7), mj_n, mj_o (.aload_n 0), mj_q (.getfield 7) 8 0 0 199 0, mj_n, mj_n, mj_o (.iload 6), mj_n, mj_o (.lload 7), mj_n, mj_o (.lload_n 1), mj_o .ldiv, mj_o .l2i, mj_o .iastore, mj_o (.lload 7), mj_n, mj_o (.lload_n 1), mj_o .lrem, mj_o (.lstore_n 3), mj_o (.iload 5), mj_n, mj_q (.ifCond .ne 20) 87 0 0 0 0, mj_n, mj_n, mj_o (.aload_n 0), mj_q (.getfield 7) 8 0 0 199 0, mj_n, mj_n, mj_o (.iload 6), mj_n, mj_o .iaload, mj_q (.ifCond .eq 10) 87 0 0 0 0, mj_n, mj_n, mj_o (.iload 6), mj_n, mj_o (.iconst 1), mj_o .iadd, mj_q (.goto 5) 89 0 0 0 0, mj_n, mj_n, mj_o (.iload 5), mj_n, mj_o (.istore 5), mj_n, mj_o (.iinc 6 (-1)), mj_n, mj_n, mj_q (.goto (-73)) 21 0 0 0 0, mj_n, mj_n, mj_o (.aload_n 0), mj_o (.iload 5), mj_n, mj_q (.putfield 13) 8 1 0 201 0, mj_n, mj_n, mj_o (.aload_n 0), mj_o (.aload_n 0), mj_q (.getfield 13) 8 1 0 201 0, mj_n, mj_n, mj_q (.ifCond .ne 7) 115 0 0 0 0, mj_n, mj_n, mj_o (.iconst 0), mj_q (.goto 7) 119 0 0 0 0, mj_n, mj_n, mj_o (.aload_n 0), mj_q (.getfield 19) 8 2 0 205 0, mj_n, mj_n, mj_q (.putfield 19) 8 2 0 205 0]
def mj_l97_1 : List (Option mj_I) := [mj_n, mj_n, mj_o .return_]
def mj_l97 : List (Option mj_I) := mj_l97_0 ++ (mj_l97_1)
def mj_m97 : mj_M := (⟨"PolyRegisters$Wide", "cut", "(J)V"⟩, prog_10_method_13_code, 9, none, mj_look mj_l97, [], 1, 1045, 113, 1043, 1044)
-- 98: PolyRegisters$Wide.digitCount()I
def mj_l98 : List (Option mj_I) := [mj_o (.aload_n 0), mj_q (.getfield 13) 8 1 0 201 0, mj_n, mj_n, mj_q (.ifCond .ne 7) 11 0 0 0 0, mj_n, mj_n, mj_o (.iconst 1), mj_q (.goto 12) 20 0 0 0 0, mj_n, mj_n, mj_o (.aload_n 0), mj_q (.getfield 13) 8 1 0 201 0, mj_n, mj_n, mj_o (.iconst 1), mj_o .isub, mj_o (.bipush 9), mj_n, mj_o .imul, mj_o (.istore_n 1), mj_o (.aload_n 0), mj_o (.aload_n 0), mj_q (.getfield 13) 8 1 0 201 0, mj_n, mj_n, mj_o (.iconst 1), mj_o .isub, mj_q (.invokevirtual 51) 89 2 0 517 8, mj_n, mj_n, mj_o (.istore_n 2), mj_o (.iconst 0), mj_o (.istore_n 3), mj_o (.iload_n 3), mj_o (.bipush 9), mj_n, mj_q (.if_icmp .ge 21) 58 0 0 0 0, mj_n, mj_n, mj_o (.iload_n 2), mj_q (.ifCond .eq 17) 58 0 0 0 0, mj_n, mj_n, mj_o (.iload_n 2), mj_o (.bipush 10), mj_n, mj_o .idiv, mj_o (.istore_n 2), mj_o (.iinc 1 1), mj_n, mj_n, mj_o (.iinc 3 1), mj_n, mj_n, mj_q (.goto (-21)) 34 0 0 0 0, mj_n, mj_n, mj_o (.iload_n 1), mj_o .ireturn]
def mj_m98 : mj_M := (⟨"PolyRegisters$Wide", "digitCount", "()I"⟩, prog_10_method_14_code, 4, some FieldType.int, mj_look mj_l98, [], 1, 516, 113, 514, 515)
-- 99: PolyRegisters$Wide.digitAt(I)I
def mj_l99 : List (Option mj_I) := [mj_o (.aload_n 0), mj_o (.iload_n 1), mj_o (.bipush 9), mj_n, mj_o .idiv, mj_q (.invokevirtual 51) 89 2 0 517 8, mj_n, mj_n, mj_o (.istore_n 2), mj_o (.iload_n 1), mj_o (.bipush 9), mj_n, mj_o .irem, mj_o (.istore_n 3), mj_o (.iload_n 3), mj_q (.ifCond .le 14) 29 0 0 0 0, mj_n, mj_n, mj_o (.iload_n 2), mj_o (.bipush 10), mj_n, mj_o .idiv, mj_o (.istore_n 2), mj_o (.iinc 3 (-1)), mj_n, mj_n, mj_q (.goto (-12)) 14 0 0 0 0, mj_n, mj_n, mj_o (.iload_n 2), mj_o (.bipush 10), mj_n, mj_o .irem, mj_o .ireturn]
def mj_m99 : mj_M := (⟨"PolyRegisters$Wide", "digitAt", "(I)I"⟩, prog_10_method_15_code, 4, some FieldType.int, mj_look mj_l99, [], 1, 1305, 113, 1303, 1304)
-- 100: PolyRegisters$Wide.lowBits()J
def mj_l100 : List (Option mj_I) := [mj_o (.lconst 0), mj_o (.lstore_n 1), mj_o (.aload_n 0), mj_q (.getfield 13) 8 1 0 201 0, mj_n, mj_n, mj_o (.iconst 1), mj_o .isub, mj_o (.istore_n 3), mj_o (.iload_n 3), mj_q (.ifCond .lt 32) 42 0 0 0 0, mj_n, mj_n, mj_o (.iload_n 3), mj_o (.aload_n 0), mj_q (.getfield 7) 8 0 0 199 0, mj_n, mj_n, mj_o .arraylength, mj_q (.if_icmp .ge 23) 42 0 0 0 0, mj_n, mj_n, mj_o (.lload_n 1), mj_q (.ldc2_w 17) 1000000000 0 0 333 0, mj_n, mj_n, mj_o .lmul, mj_o (.aload_n 0), mj_q (.getfield 7) 8 0 0 199 0, mj_n, mj_n, mj_o (.iload_n 3), mj_o .iaload, mj_o .i2l, mj_o .ladd, mj_o (.lstore_n 1), mj_o (.iinc 3 (-1)), mj_n, mj_n, mj_q (.goto (-30)) 9 0 0 0 0, mj_n, mj_n, mj_o (.aload_n 0), mj_q (.getfield 19) 8 2 0 205 0, mj_n, mj_n, mj_q (.ifCond .ge 8) 54 0 0 0 0, mj_n, mj_n, mj_o (.lload_n 1), mj_o .lneg, mj_q (.goto 4) 55 0 0 0 0, mj_n, mj_n, mj_o (.lload_n 1), mj_o .lreturn]
def mj_m100 : mj_M := (⟨"PolyRegisters$Wide", "lowBits", "()J"⟩, prog_10_method_16_code, 4, some FieldType.long, mj_look mj_l100, [], 1, 528, 113, 526, 527)
-- 101: PolyRegisters.<init>()V
def mj_l101_0 : List (Option mj_I) := [mj_o (.aload_n 0), mj_q (.invokespecial 3) 0 0 5 136 0, mj_n, mj_n, mj_o (.aload_n 0), mj_q (.new 9) 0 0 0 139 0, mj_n, mj_n, mj_o .dup, mj_q (.invokespecial 11) 0 1 1 141 0, mj_n, mj_n, mj_q (.putfield 12) 9 0 3 418 0, mj_n, mj_n, mj_o (.aload_n 0), mj_o (.bipush 8), mj_n, mj_q (.anewarray 9) 3 0 0 139 164, mj_n, mj_n, mj_q (.putfield 16) 9 1 3 419 0, mj_n, mj_n, mj_o (.aload_n 0), mj_q (.new 20) 7 0 0 165 0, mj_n, mj_n, mj_o .dup, mj_o (.sipush 200), mj_n, mj_n, mj_q (.invokespecial 22) 78 2 0 167 0, mj_n, mj_n, mj_q (.putfield 25) 9 4 3 422 0, mj_n, mj_n, mj_o (.aload_n 0), mj_q (.new 20) 7 0 0 165 0, mj_n, mj_n, mj_o .dup, mj_o (.sipush 340), mj_n, mj_n, mj_q (.invokespecial 22) 78 2 0 167 0, mj_n, mj_n, mj_q (.putfield 29) 9 5 3 423 0, mj_n, mj_n, mj_o (.aload_n 0), mj_q (.new 20) 7 0 0 165 0, mj_n, mj_n, mj_o .dup, mj_o (.sipush 340), mj_n, mj_n, mj_q (.invokespecial 22) 78 2 0 167 0, mj_n, mj_n, mj_q (.putfield 32) 9 6 3 424 0, mj_n, mj_n, mj_o (.aload_n 0), mj_q (.new 35) 1 0 0 181 0, mj_n, mj_n, mj_o .dup, mj_q (.invokespecial 37) 10 1 1 183 0, mj_n, mj_n, mj_q (.putfield 38) 9 7 3 425 0, mj_n, mj_n, mj_o (.aload_n 0), mj_q (.new 42) 6 0 0 289 0, mj_n, mj_n, mj_o .dup, mj_o (.aload_n 0), mj_q (.getfield 38) 9 7 0 425 0, mj_n, mj_n, mj_q (.invokespecial 44) 67 2 0 291 0, mj_n, mj_n, mj_q (.putfield 47) 9 8 3 426 0, mj_n, mj_n, mj_o (.aload_n 0), mj_q (.new 51) 5 0 0 321 0, mj_n, mj_n, mj_o .dup, mj_o (.aload_n 0), mj_q (.getfield 38) 9 7 0 425 0, mj_n, mj_n, mj_o (.aload_n 0), mj_q (.getfield 47) 9 8 0 426 0, mj_n, mj_n, mj_q (.invokespecial 53) 58 3 0 323 0, mj_n, mj_n, mj_q (.putfield 56) 9 9 3 427 0, mj_n, mj_n, mj_o (.aload_n 0), mj_q (.new 60) 4 0 0 373 0, mj_n, mj_n, mj_o .dup, mj_o (.aload_n 0), mj_q (.getfield 38) 9 7 0 425 0, mj_n, mj_n]
def mj_l101_1 : List (Option mj_I) := [mj_o (.aload_n 0), mj_q (.getfield 25) 9 4 0 422 0, mj_n, mj_n, mj_q (.invokespecial 62) 45 3 0 375 0, mj_n, mj_n, mj_q (.putfield 65) 9 10 3 428 0, mj_n, mj_n, mj_o (.aload_n 0), mj_q (.new 69) 8 0 0 407 0, mj_n, mj_n, mj_o .dup, mj_o (.bipush 10), mj_n, mj_q (.invokespecial 71) 85 2 0 408 0, mj_n, mj_n, mj_q (.putfield 72) 9 11 3 429 0, mj_n, mj_n, mj_o (.aload_n 0), mj_q (.new 69) 8 0 0 407 0, mj_n, mj_n, mj_o .dup, mj_o (.bipush 10), mj_n, mj_q (.invokespecial 71) 85 2 0 408 0, mj_n, mj_n, mj_q (.putfield 76) 9 12 3 430 0, mj_n, mj_n, mj_o (.aload_n 0), mj_o (.bipush 13), mj_n, mj_q (.newarray .long) 1 0 0 162 0, mj_n, mj_q (.putfield 79) 9 13 3 431 0, mj_n, mj_n, mj_o (.aload_n 0), mj_o (.bipush 13), mj_n, mj_q (.newarray .long) 1 0 0 162 0, mj_n, mj_q (.putfield 83) 9 14 3 432 0, mj_n, mj_n, mj_o (.aload_n 0), mj_o (.iconst (-1)), mj_q (.putfield 86) 9 15 0 433 0, mj_n, mj_n, mj_o (.iconst 0), mj_o (.istore_n 1), mj_o (.iload_n 1), mj_o (.aload_n 0), mj_q (.getfield 16) 9 1 0 419 0, mj_n, mj_n, mj_o .arraylength, mj_q (.if_icmp .ge 22) 207 0 0 0 0, mj_n, mj_n, mj_o (.aload_n 0), mj_q (.getfield 16) 9 1 0 419 0, mj_n, mj_n, mj_o (.iload_n 1), mj_q (.new 9) 0 0 0 139 0, mj_n, mj_n, mj_o .dup, mj_q (.invokespecial 11) 0 1 1 141 0, mj_n, mj_n, mj_o .aastore, mj_o (.iinc 1 1), mj_n, mj_n, mj_q (.goto (-25)) 179 0 0 0 0, mj_n, mj_n, mj_o (.aload_n 0), mj_q (.getfield 12) 9 0 0 418 0, mj_n, mj_n, mj_q (.invokevirtual 90) 1 1 0 409 0, mj_n, mj_n, mj_o (.aload_n 0), mj_q (.getfield 76) 9 12 0 430 0, mj_n, mj_n, mj_o (.lconst 1), mj_q (.invokevirtual 93) 86 2 0 417 8, mj_n, mj_n, mj_o .return_]
def mj_l101 : List (Option mj_I) := mj_l101_0 ++ (mj_l101_1)
def mj_m101 : mj_M := (⟨"PolyRegisters", "<init>", "()V"⟩, prog_1_method_1_code, 2, none, mj_look mj_l101, [], 2, 135, 108, 134, 0)
end
section
-- 102: PolyRegisters.add(III)I
def mj_l102 : List (Option mj_I) := [mj_o (.aload_n 0), mj_o (.iload_n 1), mj_q (.invokevirtual 97) 149 2 0 814 9, mj_n, mj_n, mj_o .pop, mj_o (.aload_n 0), mj_o (.iload_n 2), mj_q (.invokevirtual 97) 149 2 0 814 9, mj_n, mj_n, mj_o (.aload_n 0), mj_o (.iload_n 3), mj_q (.invokevirtual 97) 149 2 0 814 9, mj_n, mj_n, mj_o (.iconst 1), mj_o (.aload_n 0), mj_q (.getfield 79) 9 13 0 431 0, mj_n, mj_n, mj_q (.invokestatic 101) 167 4 0 839 0, mj_n, mj_n, mj_q (.ifCond .ne 11) 35 0 0 0 0, mj_n, mj_n, mj_q (.new 105) 1 107 1 840 0, mj_n, mj_n, mj_n, mj_n, mj_n, mj_n, mj_n, mj_o (.aload_n 0), mj_o (.iload_n 1), mj_q (.invokevirtual 108) 154 2 0 855 9, mj_n, mj_n, mj_o .ireturn]
def mj_m102 : mj_M := (⟨"PolyRegisters", "add", "(III)I"⟩, prog_1_method_2_code, 4, some FieldType.int, mj_look mj_l102, [], 1, 813, 108, 811, 812)
-- 103: PolyRegisters.subtract(III)I
def mj_l103 : List (Option mj_I) := [mj_o (.aload_n 0), mj_o (.iload_n 1), mj_q (.invokevirtual 97) 149 2 0 814 9, mj_n, mj_n, mj_o .pop, mj_o (.aload_n 0), mj_o (.iload_n 2), mj_q (.invokevirtual 97) 149 2 0 814 9, mj_n, mj_n, mj_o (.aload_n 0), mj_o (.iload_n 3), mj_q (.invokevirtual 97) 149 2 0 814 9, mj_n, mj_n, mj_o (.iconst (-1)), mj_o (.aload_n 0), mj_q (.getfield 79) 9 13 0 431 0, mj_n, mj_n, mj_q (.invokestatic 101) 167 4 0 839 0, mj_n, mj_n, mj_q (.ifCond .ne 11) 35 0 0 0 0, mj_n, mj_n, mj_q (.new 105) 1 107 1 840 0, mj_n, mj_n, mj_n, mj_n, mj_n, mj_n, mj_n, mj_o (.aload_n 0), mj_o (.iload_n 1), mj_q (.invokevirtual 108) 154 2 0 855 9, mj_n, mj_n, mj_o .ireturn]
def mj_m103 : mj_M := (⟨"PolyRegisters", "subtract", "(III)I"⟩, prog_1_method_3_code, 4, some FieldType.int, mj_look mj_l103, [], 1, 866, 108, 864, 865)
-- 104: PolyRegisters.multiply(III)I
def mj_l104 : List (Option mj_I) := [mj_o (.aload_n 0), mj_o (.iload_n 1), mj_q (.invokevirtual 97) 149 2 0 814 9, mj_n, mj_n, mj_o .pop, mj_o (.aload_n 0), mj_q (.getfield 38) 9 7 0 425 0, mj_n, mj_n, mj_o (.aload_n 0), mj_o (.iload_n 2), mj_q (.invokevirtual 97) 149 2 0 814 9, mj_n, mj_n, mj_o (.aload_n 0), mj_o (.iload_n 3), mj_q (.invokevirtual 97) 149 2 0 814 9, mj_n, mj_n, mj_o (.aload_n 0), mj_q (.getfield 79) 9 13 0 431 0, mj_n, mj_n, mj_q (.invokevirtual 112) 11 4 0 874 1, mj_n, mj_n, mj_q (.ifCond .ne 11) 38 0 0 0 0, mj_n, mj_n, mj_q (.new 105) 1 107 1 840 0, mj_n, mj_n, mj_n, mj_n, mj_n, mj_n, mj_n, mj_o (.aload_n 0), mj_o (.iload_n 1), mj_q (.invokevirtual 108) 154 2 0 855 9, mj_n, mj_n, mj_o .ireturn]
def mj_m104 : mj_M := (⟨"PolyRegisters", "multiply", "(III)I"⟩, prog_1_method_4_code, 4, some FieldType.int, mj_look mj_l104, [], 1, 873, 108, 871, 872)
-- 105: PolyRegisters.power(III)I
def mj_l105 : List (Option mj_I) := [mj_o (.aload_n 0), mj_o (.iload_n 1), mj_q (.invokevirtual 97) 149 2 0 814 9, mj_n, mj_n, mj_o .pop, mj_o (.aload_n 0), mj_o (.iload_n 2), mj_q (.invokevirtual 97) 149 2 0 814 9, mj_n, mj_n, mj_o (.astore 4), mj_n, mj_o (.iload_n 3), mj_q (.invokestatic 116) 150 1 0 883 0, mj_n, mj_n, mj_o (.aload_n 0), mj_q (.getfield 38) 9 7 0 425 0, mj_n, mj_n, mj_o (.aload 4), mj_n, mj_o (.iload_n 3), mj_o (.aload_n 0), mj_q (.getfield 79) 9 13 0 431 0, mj_n, mj_n, mj_q (.invokevirtual 119) 12 4 0 901 1, mj_n, mj_n, mj_q (.ifCond .ne 11) 42 0 0 0 0, mj_n, mj_n, mj_q (.new 105) 1 107 1 840 0, mj_n, mj_n, mj_n, mj_n, mj_n, mj_n, mj_n, mj_o (.aload_n 0), mj_o (.iload_n 1), mj_q (.invokevirtual 108) 154 2 0 855 9, mj_n, mj_n, mj_o .ireturn]
def mj_m105 : mj_M := (⟨"PolyRegisters", "power", "(III)I"⟩, prog_1_method_5_code, 5, some FieldType.int, mj_look mj_l105, [], 1, 882, 108, 880, 881)
-- 106: PolyRegisters.derive(II)I
def mj_l106 : List (Option mj_I) := [mj_o (.aload_n 0), mj_o (.iload_n 1), mj_q (.invokevirtual 97) 149 2 0 814 9, mj_n, mj_n, mj_o .pop, mj_o (.aload_n 0), mj_o (.iload_n 2), mj_q (.invokevirtual 97) 149 2 0 814 9, mj_n, mj_n, mj_o (.aload_n 0), mj_q (.getfield 79) 9 13 0 431 0, mj_n, mj_n, mj_q (.invokestatic 123) 168 2 0 909 0, mj_n, mj_n, mj_q (.ifCond .ne 11) 29 0 0 0 0, mj_n, mj_n, mj_q (.new 105) 1 107 1 840 0, mj_n, mj_n, mj_n, mj_n, mj_n, mj_n, mj_n, mj_o (.aload_n 0), mj_o (.iload_n 1), mj_q (.invokevirtual 108) 154 2 0 855 9, mj_n, mj_n, mj_o .ireturn]
def mj_m106 : mj_M := (⟨"PolyRegisters", "derive", "(II)I"⟩, prog_1_method_6_code, 3, some FieldType.int, mj_look mj_l106, [], 1, 908, 108, 906, 907)
-- 107: PolyRegisters.substitute(III)I
def mj_l107 : List (Option mj_I) := [mj_o (.aload_n 0), mj_o (.iload_n 1), mj_q (.invokevirtual 97) 149 2 0 814 9, mj_n, mj_n, mj_o .pop, mj_o (.aload_n 0), mj_q (.getfield 38) 9 7 0 425 0, mj_n, mj_n, mj_o (.aload_n 0), mj_o (.iload_n 2), mj_q (.invokevirtual 97) 149 2 0 814 9, mj_n, mj_n, mj_o (.aload_n 0), mj_o (.iload_n 3), mj_q (.invokevirtual 97) 149 2 0 814 9, mj_n, mj_n, mj_o (.aload_n 0), mj_q (.getfield 79) 9 13 0 431 0, mj_n, mj_n, mj_q (.invokevirtual 127) 13 4 0 920 1, mj_n, mj_n, mj_q (.ifCond .ne 11) 38 0 0 0 0, mj_n, mj_n, mj_q (.new 105) 1 107 1 840 0, mj_n, mj_n, mj_n, mj_n, mj_n, mj_n, mj_n, mj_o (.aload_n 0), mj_o (.iload_n 1), mj_q (.invokevirtual 108) 154 2 0 855 9, mj_n, mj_n, mj_o .ireturn]
def mj_m107 : mj_M := (⟨"PolyRegisters", "substitute", "(III)I"⟩, prog_1_method_7_code, 4, some FieldType.int, mj_look mj_l107, [], 1, 919, 108, 917, 918)
-- 108: PolyRegisters.divide(IIII)I
def mj_l108 : List (Option mj_I) := [mj_o (.aload_n 0), mj_o (.iload_n 1), mj_q (.invokevirtual 97) 149 2 0 814 9, mj_n, mj_n, mj_o .pop, mj_o (.aload_n 0), mj_o (.iload_n 2), mj_q (.invokevirtual 97) 149 2 0 814 9, mj_n, mj_n, mj_o .pop, mj_o (.aload_n 0), mj_o (.iload_n 3), mj_q (.invokevirtual 97) 149 2 0 814 9, mj_n, mj_n, mj_o (.astore 5), mj_n, mj_o (.aload_n 0), mj_o (.iload 4), mj_n, mj_q (.invokevirtual 97) 149 2 0 814 9, mj_n, mj_n, mj_o (.astore 6), mj_n, mj_o (.iload_n 1), mj_o (.iload_n 2), mj_q (.if_icmp .ne 11) 40 0 0 0 0, mj_n, mj_n, mj_q (.new 130) 2 132 1 886 0, mj_n, mj_n, mj_n, mj_n, mj_n, mj_n, mj_n, mj_o (.aload 6), mj_n, mj_q (.invokestatic 133) 153 1 0 945 0, mj_n, mj_n, mj_o (.aload 5), mj_n, mj_q (.invokestatic 137) 162 1 0 553 0, mj_n, mj_n, mj_o (.aload 6), mj_n, mj_q (.invokestatic 137) 162 1 0 553 0, mj_n, mj_n, mj_o .isub, mj_o (.iconst 1), mj_o .iadd, mj_o (.iconst 0), mj_q (.invokestatic 141) 0 0 2 953 0, mj_n, mj_n, mj_o (.istore 7), mj_n, mj_o (.aload_n 0), mj_q (.getfield 38) 9 7 0 425 0, mj_n, mj_n, mj_o (.aload 5), mj_n, mj_o (.aload 6), mj_n, mj_o (.aload_n 0), mj_q (.getfield 79) 9 13 0 431 0, mj_n, mj_n, mj_o (.aload_n 0), mj_q (.getfield 83) 9 14 0 432 0, mj_n, mj_n, mj_q (.invokevirtual 147) 16 5 0 954 1, mj_n, mj_n, mj_q (.ifCond .ne 11) 94 0 0 0 0, mj_n, mj_n, mj_q (.new 105) 1 107 1 840 0, mj_n, mj_n, mj_n, mj_n, mj_n, mj_n, mj_n, mj_o (.aload_n 0), mj_o (.iload_n 1), mj_q (.invokevirtual 108) 154 2 0 855 9, mj_n, mj_n, mj_o .pop, mj_o (.aload_n 0), mj_q (.getfield 83) 9 14 0 432 0, mj_n, mj_n, mj_o (.aload_n 0), mj_o (.iload_n 2), mj_q (.invokevirtual 97) 149 2 0 814 9, mj_n, mj_n, mj_q (.invokestatic 151) 164 2 0 859 0, mj_n, mj_n, mj_o (.iload 7), mj_n, mj_o .ireturn]
def mj_m108 : mj_M := (⟨"PolyRegisters", "divide", "(IIII)I"⟩, prog_1_method_8_code, 8, some FieldType.int, mj_look mj_l108, [], 1, 944, 108, 942, 943)
-- 109: PolyRegisters.gcd(III)I
def mj_l109 : List (Option mj_I) := [mj_o (.aload_n 0), mj_o (.iload_n 1), mj_q (.invokevirtual 97) 149 2 0 814 9, mj_n, mj_n, mj_o .pop, mj_o (.aload_n 0), mj_q (.getfield 56) 9 9 0 427 0, mj_n, mj_n, mj_o (.aload_n 0), mj_o (.iload_n 2), mj_q (.invokevirtual 97) 149 2 0 814 9, mj_n, mj_n, mj_o (.aload_n 0), mj_o (.iload_n 3), mj_q (.invokevirtual 97) 149 2 0 814 9, mj_n, mj_n, mj_o (.aload_n 0), mj_q (.getfield 79) 9 13 0 431 0, mj_n, mj_n, mj_q (.invokevirtual 155) 59 4 0 974 5, mj_n, mj_n, mj_q (.ifCond .ne 11) 38 0 0 0 0, mj_n, mj_n, mj_q (.new 105) 1 107 1 840 0, mj_n, mj_n, mj_n, mj_n, mj_n, mj_n, mj_n, mj_o (.aload_n 0), mj_o (.iload_n 1), mj_q (.invokevirtual 108) 154 2 0 855 9, mj_n, mj_n, mj_o .ireturn]
def mj_m109 : mj_M := (⟨"PolyRegisters", "gcd", "(III)I"⟩, prog_1_method_9_code, 4, some FieldType.int, mj_look mj_l109, [], 1, 973, 108, 971, 972)
-- 110: PolyRegisters.primitive(II)I
def mj_l110 : List (Option mj_I) := [mj_o (.aload_n 0), mj_o (.iload_n 1), mj_q (.invokevirtual 97) 149 2 0 814 9, mj_n, mj_n, mj_o .pop, mj_o (.aload_n 0), mj_o (.iload_n 2), mj_q (.invokevirtual 97) 149 2 0 814 9, mj_n, mj_n, mj_o (.astore_n 3), mj_o (.aload_n 3), mj_q (.invokestatic 158) 170 1 0 1100 0, mj_n, mj_n, mj_o (.lstore 4), mj_n, mj_o (.iconst 0), mj_o (.istore 6), mj_n, mj_o (.iload 6), mj_n, mj_o (.bipush 13), mj_n, mj_q (.if_icmp .ge 41) 66 0 0 0 0, mj_n, mj_n, mj_o (.iload 6), mj_n, mj_o (.aload_n 3), mj_o .arraylength, mj_q (.if_icmp .ge 34) 66 0 0 0 0, mj_n, mj_n, mj_o (.aload_n 0), mj_q (.getfield 79) 9 13 0 431 0, mj_n, mj_n, mj_o (.iload 6), mj_n, mj_o (.lload 4), mj_n, mj_o (.lconst 0), mj_o .lcmp, mj_q (.ifCond .ne 7) 52 0 0 0 0, mj_n, mj_n, mj_o (.lconst 0), mj_q (.goto 10) 59 0 0 0 0, mj_n, mj_n, mj_o (.aload_n 3), mj_o (.iload 6), mj_n, mj_o .laload, mj_o (.lload 4), mj_n, mj_o .ldiv, mj_o .lastore, mj_o (.iinc 6 1), mj_n, mj_n, mj_q (.goto (-42)) 21 0 0 0 0, mj_n, mj_n, mj_o (.aload_n 0), mj_o (.iload_n 1), mj_q (.invokevirtual 108) 154 2 0 855 9, mj_n, mj_n, mj_o .ireturn]
def mj_m110 : mj_M := (⟨"PolyRegisters", "primitive", "(II)I"⟩, prog_1_method_10_code, 7, some FieldType.int, mj_look mj_l110, [], 1, 1099, 108, 1097, 1098)
-- 111: PolyRegisters.simple(II)I
def mj_l111 : List (Option mj_I) := [mj_o (.aload_n 0), mj_o (.iload_n 1), mj_q (.invokevirtual 97) 149 2 0 814 9, mj_n, mj_n, mj_o .pop, mj_o (.aload_n 0), mj_o (.iload_n 2), mj_q (.invokevirtual 97) 149 2 0 814 9, mj_n, mj_n, mj_o (.astore_n 3), mj_o (.aload_n 3), mj_q (.invokestatic 133) 153 1 0 945 0, mj_n, mj_n, mj_o (.aload_n 0), mj_q (.getfield 56) 9 9 0 427 0, mj_n, mj_n, mj_o (.aload_n 3), mj_q (.invokevirtual 162) 61 2 0 1108 5, mj_n, mj_n, mj_o (.aload_n 0), mj_q (.getfield 56) 9 9 0 427 0, mj_n, mj_n, mj_o (.aload_n 0), mj_q (.getfield 79) 9 13 0 431 0, mj_n, mj_n, mj_q (.invokevirtual 165) 62 2 0 1124 5, mj_n, mj_n, mj_q (.ifCond .ne 11) 46 0 0 0 0, mj_n, mj_n, mj_q (.new 105) 1 107 1 840 0, mj_n, mj_n, mj_n, mj_n, mj_n, mj_n, mj_n, mj_o (.aload_n 0), mj_o (.iload_n 1), mj_q (.invokevirtual 108) 154 2 0 855 9, mj_n, mj_n, mj_o .ireturn]
def mj_m111 : mj_M := (⟨"PolyRegisters", "simple", "(II)I"⟩, prog_1_method_11_code, 4, some FieldType.int, mj_look mj_l111, [], 1, 1107, 108, 1105, 1106)
-- 112: PolyRegisters.residue(III)I
def mj_l112 : List (Option mj_I) := [mj_o (.aload_n 0), mj_o (.iload_n 1), mj_q (.invokevirtual 97) 149 2 0 814 9, mj_n, mj_n, mj_o .pop, mj_o (.aload_n 0), mj_o (.iload_n 2), mj_q (.invokevirtual 97) 149 2 0 814 9, mj_n, mj_n, mj_o (.astore 4), mj_n, mj_o (.iload_n 3), mj_q (.invokestatic 169) 152 1 0 1135 0, mj_n, mj_n, mj_o (.iconst 0), mj_o (.istore 5), mj_n, mj_o (.iload 5), mj_n, mj_o (.bipush 13), mj_n, mj_q (.if_icmp .ge 34) 58 0 0 0 0, mj_n, mj_n, mj_o (.iload 5), mj_n, mj_o (.aload 4), mj_n, mj_o .arraylength, mj_q (.if_icmp .ge 26) 58 0 0 0 0, mj_n, mj_n, mj_o (.aload_n 0), mj_q (.getfield 79) 9 13 0 431 0, mj_n, mj_n, mj_o (.iload 5), mj_n, mj_o (.aload 4), mj_n, mj_o (.iload 5), mj_n, mj_o .laload, mj_o (.iload_n 3), mj_q (.invokestatic 172) 172 2 0 1138 0, mj_n, mj_n, mj_o .i2l, mj_o .lastore, mj_o (.iinc 5 1), mj_n, mj_n, mj_q (.goto (-35)) 20 0 0 0 0, mj_n, mj_n, mj_o (.aload_n 0), mj_o (.iload_n 1), mj_q (.invokevirtual 108) 154 2 0 855 9, mj_n, mj_n, mj_o .ireturn]
def mj_m112 : mj_M := (⟨"PolyRegisters", "residue", "(III)I"⟩, prog_1_method_12_code, 6, some FieldType.int, mj_look mj_l112, [], 1, 1134, 108, 1132, 1133)
-- 113: PolyRegisters.setTerm(IIJ)I
def mj_l113 : List (Option mj_I) := [mj_o (.aload_n 0), mj_o (.iload_n 1), mj_q (.invokevirtual 97) 149 2 0 814 9, mj_n, mj_n, mj_o (.astore 5), mj_n, mj_o (.iload_n 2), mj_q (.invokestatic 116) 150 1 0 883 0, mj_n, mj_n, mj_o (.lload_n 3), mj_q (.invokestatic 176) 161 1 0 716 0, mj_n, mj_n, mj_q (.ifCond .ne 11) 26 0 0 0 0, mj_n, mj_n, mj_q (.new 105) 1 107 1 840 0, mj_n, mj_n, mj_n, mj_n, mj_n, mj_n, mj_n, mj_o (.aload 5), mj_n, mj_o (.aload_n 0), mj_q (.getfield 79) 9 13 0 431 0, mj_n, mj_n, mj_q (.invokestatic 151) 164 2 0 859 0, mj_n, mj_n, mj_o (.aload_n 0), mj_q (.getfield 79) 9 13 0 431 0, mj_n, mj_n, mj_o (.iload_n 2), mj_o (.lload_n 3), mj_o .lastore, mj_o (.aload_n 0), mj_o (.iload_n 1), mj_q (.invokevirtual 108) 154 2 0 855 9, mj_n, mj_n, mj_o .ireturn]
def mj_m113 : mj_M := (⟨"PolyRegisters", "setTerm", "(IIJ)I"⟩, prog_1_method_13_code, 6, some FieldType.int, mj_look mj_l113, [], 1, 1147, 108, 1145, 1146)
-- 114: PolyRegisters.read(I)I
def mj_l114 : List (Option mj_I) := [mj_o (.aload_n 0), mj_o (.iload_n 1), mj_q (.invokevirtual 97) 149 2 0 814 9, mj_n, mj_n, mj_o .pop, mj_o (.aload_n 0), mj_q (.getfield 65) 9 10 0 428 0, mj_n, mj_n, mj_o (.aload_n 0), mj_q (.getfield 25) 9 4 0 422 0, mj_n, mj_n, mj_q (.invokevirtual 180) 46 2 0 640 4, mj_n, mj_n, mj_o (.istore_n 2), mj_o (.aload_n 0), mj_q (.getfield 25) 9 4 0 422 0, mj_n, mj_n, mj_o (.iconst 0), mj_q (.putfield 184) 7 1 0 174 0, mj_n, mj_n, mj_o (.aload_n 0), mj_o (.aload_n 0), mj_q (.getfield 65) 9 10 0 428 0, mj_n, mj_n, mj_q (.getfield 187) 4 3 0 384 0, mj_n, mj_n, mj_q (.putfield 86) 9 15 0 433 0, mj_n, mj_n, mj_o (.iload_n 2), mj_q (.ifCond .ne 11) 49 0 0 0 0, mj_n, mj_n, mj_q (.new 130) 2 132 1 886 0, mj_n, mj_n, mj_n, mj_n, mj_n, mj_n, mj_n, mj_o (.aload_n 0), mj_q (.getfield 65) 9 10 0 428 0, mj_n, mj_n, mj_q (.getfield 190) 4 4 0 386 0, mj_n, mj_n, mj_q (.ifCond .eq 11) 67 0 0 0 0, mj_n, mj_n, mj_q (.new 105) 1 107 1 840 0, mj_n, mj_n, mj_n, mj_n, mj_n, mj_n, mj_n, mj_o (.aload_n 0), mj_q (.getfield 65) 9 10 0 428 0, mj_n, mj_n, mj_q (.invokevirtual 194) 47 1 0 721 4, mj_n, mj_n, mj_o (.aload_n 0), mj_q (.getfield 79) 9 13 0 431 0, mj_n, mj_n, mj_q (.invokestatic 151) 164 2 0 859 0, mj_n, mj_n, mj_o (.aload_n 0), mj_o (.iload_n 1), mj_q (.invokevirtual 108) 154 2 0 855 9, mj_n, mj_n, mj_o .ireturn]
def mj_m114 : mj_M := (⟨"PolyRegisters", "read", "(I)I"⟩, prog_1_method_14_code, 3, some FieldType.int, mj_look mj_l114, [], 1, 1154, 108, 1152, 1153)
-- 115: PolyRegisters.addPoint(II)I
def mj_l115 : List (Option mj_I) := [mj_o (.iload_n 1), mj_o (.bipush (-9)), mj_n, mj_q (.if_icmp .lt 23) 26 0 0 0 0, mj_n, mj_n, mj_o (.iload_n 1), mj_o (.bipush 9), mj_n, mj_q (.if_icmp .gt 17) 26 0 0 0 0, mj_n, mj_n, mj_o (.iload_n 2), mj_o (.sipush (-999)), mj_n, mj_n, mj_q (.if_icmp .lt 10) 26 0 0 0 0, mj_n, mj_n, mj_o (.iload_n 2), mj_o (.sipush 999), mj_n, mj_n, mj_q (.if_icmp .le 11) 34 0 0 0 0, mj_n, mj_n, mj_q (.new 130) 2 132 1 886 0, mj_n, mj_n, mj_n, mj_n, mj_n, mj_n, mj_n, mj_o (.aload_n 0), mj_q (.getfield 12) 9 0 0 418 0, mj_n, mj_n, mj_q (.getfield 198) 0 3 0 152 0, mj_n, mj_n, mj_o (.bipush 6), mj_n, mj_q (.if_icmp .ge 14) 57 0 0 0 0, mj_n, mj_n, mj_o (.aload_n 0), mj_q (.getfield 12) 9 0 0 418 0, mj_n, mj_n, mj_o (.iload_n 1), mj_q (.invokevirtual 201) 4 2 0 1162 0, mj_n, mj_n, mj_q (.ifCond .eq 11) 65 0 0 0 0, mj_n, mj_n, mj_q (.new 105) 1 107 1 840 0, mj_n, mj_n, mj_n, mj_n, mj_n, mj_n, mj_n, mj_o (.aload_n 0), mj_q (.invokevirtual 205) 156 1 0 471 9, mj_n, mj_n, mj_o (.aload_n 0), mj_q (.getfield 12) 9 0 0 418 0, mj_n, mj_n, mj_o (.iload_n 1), mj_o (.iload_n 2), mj_q (.invokevirtual 208) 3 3 0 1166 0, mj_n, mj_n, mj_o (.aload_n 0), mj_q (.getfield 12) 9 0 0 418 0, mj_n, mj_n, mj_q (.getfield 198) 0 3 0 152 0, mj_n, mj_n, mj_o .ireturn]
def mj_m115 : mj_M := (⟨"PolyRegisters", "addPoint", "(II)I"⟩, prog_1_method_15_code, 3, some FieldType.int, mj_look mj_l115, [], 1, 1161, 108, 1159, 1160)
-- 116: PolyRegisters.clearPoints()I
def mj_l116 : List (Option mj_I) := [mj_o (.aload_n 0), mj_q (.invokevirtual 205) 156 1 0 471 9, mj_n, mj_n, mj_o (.aload_n 0), mj_q (.getfield 12) 9 0 0 418 0, mj_n, mj_n, mj_q (.getfield 198) 0 3 0 152 0, mj_n, mj_n, mj_o (.istore_n 1), mj_o (.aload_n 0), mj_q (.getfield 12) 9 0 0 418 0, mj_n, mj_n, mj_o (.iconst 0), mj_q (.putfield 198) 0 3 0 152 0, mj_n, mj_n, mj_o (.iload_n 1), mj_o .ireturn]
def mj_m116 : mj_M := (⟨"PolyRegisters", "clearPoints", "()I"⟩, prog_1_method_16_code, 2, some FieldType.int, mj_look mj_l116, [], 1, 470, 108, 468, 469)
-- 117: PolyRegisters.interpolate(I)J
def mj_l117_0 : List (Option mj_I) := [mj_o (.aload_n 0), mj_o (.iload_n 1), mj_q (.invokevirtual 97) 149 2 0 814 9, mj_n, mj_n, mj_o .pop, mj_o (.aload_n 0), mj_q (.getfield 12) 9 0 0 418 0, mj_n, mj_n, mj_q (.invokevirtual 212) 8 1 0 1174 0, mj_n, mj_n, mj_o (.lstore_n 2), mj_o (.aload_n 0), mj_q (.getfield 38) 9 7 0 425 0, mj_n, mj_n, mj_q (.getfield 216) 1 0 0 255 0, mj_n, mj_n, mj_q (.invokevirtual 220) 39 1 0 1183 3, mj_n, mj_n, mj_o (.iconst 0), mj_o (.istore 4), mj_n, mj_o (.iload 4), mj_n, mj_o (.aload_n 0), mj_q (.getfield 12) 9 0 0 418 0, mj_n, mj_n, mj_q (.getfield 198) 0 3 0 152 0, mj_n, mj_n, mj_q (.if_icmp .ge 70) 106 0 0 0 0, mj_n, mj_n, mj_o (.aload_n 0), mj_q (.getfield 12) 9 0 0 418 0, mj_n, mj_n, mj_o (.iload 4), mj_n, mj_q (.invokevirtual 225) 7 2 0 1184 0, mj_n, mj_n, mj_o (.lstore 5), mj_n, mj_o (.aload_n 0), mj_q (.getfield 12) 9 0 0 418 0, mj_n, mj_n, mj_o (.iload 4), mj_n, mj_o (.aload_n 0), mj_q (.getfield 83) 9 14 0 432 0, mj_n, mj_n, mj_q (.invokevirtual 229) 9 3 0 1185 0, mj_n, mj_n, mj_o (.aload_n 0), mj_q (.getfield 38) 9 7 0 425 0, mj_n, mj_n, mj_o (.lload 5), mj_n, mj_o (.lconst 0), mj_o .lcmp, mj_q (.ifCond .ne 7) 78 0 0 0 0, mj_n, mj_n, mj_o (.lconst 0), mj_q (.goto 18) 93 0 0 0 0, mj_n, mj_n, mj_o (.aload_n 0), mj_q (.getfield 12) 9 0 0 418 0, mj_n, mj_n, mj_o (.iload 4), mj_n, mj_q (.invokevirtual 233) 6 2 0 1190 0, mj_n, mj_n, mj_o .i2l, mj_o (.lload_n 2), mj_o (.lload 5), mj_n, mj_o .ldiv, mj_o .lmul, mj_o (.aload_n 0), mj_q (.getfield 83) 9 14 0 432 0, mj_n, mj_n, mj_q (.invokevirtual 236) 21 3 0 1191 1, mj_n, mj_n, mj_o (.iinc 4 1), mj_n, mj_n, mj_q (.goto (-76)) 27 0 0 0 0, mj_n, mj_n, mj_o (.aload_n 0), mj_q (.getfield 38) 9 7 0 425 0, mj_n, mj_n, mj_o (.lload_n 2), mj_q (.invokevirtual 240) 22 2 0 1195 1, mj_n, mj_n, mj_o (.lstore 4), mj_n, mj_o (.aload_n 0), mj_q (.getfield 38) 9 7 0 425 0, mj_n, mj_n]
def mj_l117_1 : List (Option mj_I) := [mj_q (.getfield 216) 1 0 0 255 0, mj_n, mj_n, mj_o (.aload_n 0), mj_q (.getfield 79) 9 13 0 431 0, mj_n, mj_n, mj_q (.invokevirtual 244) 44 2 0 1196 3, mj_n, mj_n, mj_q (.ifCond .ne 11) 141 0 0 0 0, mj_n, mj_n, mj_q (.new 105) 1 107 1 840 0, mj_n, mj_n, mj_n, mj_n, mj_n, mj_n, mj_n, mj_o (.aload_n 0), mj_o (.iload_n 1), mj_q (.invokevirtual 108) 154 2 0 855 9, mj_n, mj_n, mj_o .pop, mj_o (.lload 4), mj_n, mj_o (.lconst 0), mj_o .lcmp, mj_q (.ifCond .ne 7) 158 0 0 0 0, mj_n, mj_n, mj_o (.lload_n 2), mj_q (.goto 7) 162 0 0 0 0, mj_n, mj_n, mj_o (.lload_n 2), mj_o (.lload 4), mj_n, mj_o .ldiv, mj_o .lreturn]
def mj_l117 : List (Option mj_I) := mj_l117_0 ++ (mj_l117_1)
def mj_m117 : mj_M := (⟨"PolyRegisters", "interpolate", "(I)J"⟩, prog_1_method_17_code, 7, some FieldType.long, mj_look mj_l117, [], 1, 1173, 108, 1171, 1172)
-- 118: PolyRegisters.undo()I
def mj_l118 : List (Option mj_I) := [mj_o (.aload_n 0), mj_q (.getfield 247) 9 2 0 420 0, mj_n, mj_n, mj_q (.ifCond .ne 5) 9 0 0 0 0, mj_n, mj_n, mj_o (.iconst (-1)), mj_o .ireturn, mj_o (.aload_n 0), mj_o (.aload_n 0), mj_q (.getfield 250) 9 3 0 421 0, mj_n, mj_n, mj_o (.bipush 8), mj_n, mj_o .iadd, mj_o (.iconst 1), mj_o .isub, mj_o (.bipush 8), mj_n, mj_o .irem, mj_q (.putfield 250) 9 3 0 421 0, mj_n, mj_n, mj_o (.aload_n 0), mj_o .dup, mj_q (.getfield 247) 9 2 0 420 0, mj_n, mj_n, mj_o (.iconst 1), mj_o .isub, mj_q (.putfield 247) 9 2 0 420 0, mj_n, mj_n, mj_o (.aload_n 0), mj_q (.getfield 12) 9 0 0 418 0, mj_n, mj_n, mj_o (.aload_n 0), mj_q (.invokevirtual 253) 155 1 0 475 9, mj_n, mj_n, mj_q (.invokevirtual 257) 2 2 0 479 0, mj_n, mj_n, mj_o (.aload_n 0), mj_q (.getfield 247) 9 2 0 420 0, mj_n, mj_n, mj_o .ireturn]
def mj_m118 : mj_M := (⟨"PolyRegisters", "undo", "()I"⟩, prog_1_method_18_code, 1, some FieldType.int, mj_look mj_l118, [], 1, 504, 108, 502, 503)
-- 119: PolyRegisters.degree(I)I
def mj_l119 : List (Option mj_I) := [mj_o (.aload_n 0), mj_o (.iload_n 1), mj_q (.invokevirtual 97) 149 2 0 814 9, mj_n, mj_n, mj_q (.invokestatic 137) 162 1 0 553 0, mj_n, mj_n, mj_o .ireturn]
def mj_m119 : mj_M := (⟨"PolyRegisters", "degree", "(I)I"⟩, prog_1_method_19_code, 2, some FieldType.int, mj_look mj_l119, [], 1, 1203, 108, 1201, 1202)
-- 120: PolyRegisters.terms(I)I
def mj_l120 : List (Option mj_I) := [mj_o (.aload_n 0), mj_o (.iload_n 1), mj_q (.invokevirtual 97) 149 2 0 814 9, mj_n, mj_n, mj_q (.invokestatic 261) 163 1 0 545 0, mj_n, mj_n, mj_o .ireturn]
def mj_m120 : mj_M := (⟨"PolyRegisters", "terms", "(I)I"⟩, prog_1_method_20_code, 2, some FieldType.int, mj_look mj_l120, [], 1, 1210, 108, 1208, 1209)
-- 121: PolyRegisters.exponent(II)I
def mj_l121 : List (Option mj_I) := [mj_o (.aload_n 0), mj_o (.iload_n 1), mj_q (.invokevirtual 97) 149 2 0 814 9, mj_n, mj_n, mj_o (.astore_n 3), mj_o (.iload_n 2), mj_o (.istore 4), mj_n, mj_o (.aload_n 3), mj_o .arraylength, mj_o (.iconst 1), mj_o .isub, mj_o (.istore 5), mj_n, mj_o (.iload 5), mj_n, mj_q (.ifCond .lt 34) 51 0 0 0 0, mj_n, mj_n, mj_o (.iload 4), mj_n, mj_q (.ifCond .lt 29) 51 0 0 0 0, mj_n, mj_n, mj_o (.aload_n 3), mj_o (.iload 5), mj_n, mj_o .laload, mj_o (.lconst 0), mj_o .lcmp, mj_q (.ifCond .eq 14) 45 0 0 0 0, mj_n, mj_n, mj_o (.iload 4), mj_n, mj_q (.ifCond .ne 6) 42 0 0 0 0, mj_n, mj_n, mj_o (.iload 5), mj_n, mj_o .ireturn, mj_o (.iinc 4 (-1)), mj_n, mj_n, mj_o (.iinc 5 (-1)), mj_n, mj_n, mj_q (.goto (-33)) 15 0 0 0 0, mj_n, mj_n, mj_q (.new 264) 0 266 1 818 0, mj_n, mj_n, mj_n, mj_n, mj_n, mj_n, mj_n]
def mj_m121 : mj_M := (⟨"PolyRegisters", "exponent", "(II)I"⟩, prog_1_method_21_code, 6, some FieldType.int, mj_look mj_l121, [], 1, 1217, 108, 1215, 1216)
-- 122: PolyRegisters.coefficient(II)I
def mj_l122 : List (Option mj_I) := [mj_o (.aload_n 0), mj_o (.iload_n 1), mj_q (.invokevirtual 97) 149 2 0 814 9, mj_n, mj_n, mj_o (.astore_n 3), mj_o (.iload_n 2), mj_q (.invokestatic 116) 150 1 0 883 0, mj_n, mj_n, mj_o (.aload_n 0), mj_o (.aload_n 3), mj_o (.iload_n 2), mj_o .laload, mj_q (.invokevirtual 267) 158 2 0 1225 9, mj_n, mj_n, mj_o .ireturn]
def mj_m122 : mj_M := (⟨"PolyRegisters", "coefficient", "(II)I"⟩, prog_1_method_22_code, 4, some FieldType.int, mj_look mj_l122, [], 1, 1224, 108, 1222, 1223)
-- 123: PolyRegisters.content(I)I
def mj_l123 : List (Option mj_I) := [mj_o (.aload_n 0), mj_o (.aload_n 0), mj_o (.iload_n 1), mj_q (.invokevirtual 97) 149 2 0 814 9, mj_n, mj_n, mj_q (.invokestatic 271) 169 1 0 989 0, mj_n, mj_n, mj_q (.invokevirtual 267) 158 2 0 1225 9, mj_n, mj_n, mj_o .ireturn]
def mj_m123 : mj_M := (⟨"PolyRegisters", "content", "(I)I"⟩, prog_1_method_23_code, 2, some FieldType.int, mj_look mj_l123, [], 1, 1235, 108, 1233, 1234)
-- 124: PolyRegisters.value(III)I
def mj_l124 : List (Option mj_I) := [mj_o (.aload_n 0), mj_o (.iload_n 1), mj_q (.invokevirtual 97) 149 2 0 814 9, mj_n, mj_n, mj_o (.astore 4), mj_n, mj_o (.iload_n 2), mj_o (.iload_n 3), mj_q (.invokestatic 274) 151 2 0 1243 0, mj_n, mj_n, mj_o (.aload_n 0), mj_q (.getfield 38) 9 7 0 425 0, mj_n, mj_n, mj_o (.aload 4), mj_n, mj_o (.iload_n 2), mj_o (.iload_n 3), mj_q (.invokevirtual 277) 27 4 0 1246 1, mj_n, mj_n, mj_o .pop, mj_o (.aload_n 0), mj_o (.aload_n 0), mj_q (.getfield 38) 9 7 0 425 0, mj_n, mj_n, mj_q (.getfield 281) 1 4 0 264 0, mj_n, mj_n, mj_o (.iload_n 3), mj_o .i2l, mj_o (.aload 4), mj_n, mj_q (.invokestatic 137) 162 1 0 553 0, mj_n, mj_n, mj_q (.invokevirtual 284) 159 4 0 1258 9, mj_n, mj_n, mj_o .ireturn]
def mj_m124 : mj_M := (⟨"PolyRegisters", "value", "(III)I"⟩, prog_1_method_24_code, 5, some FieldType.int, mj_look mj_l124, [], 1, 1242, 108, 1240, 1241)
-- 125: PolyRegisters.divides(II)Z
def mj_l125 : List (Option mj_I) := [mj_o (.aload_n 0), mj_o (.iload_n 1), mj_q (.invokevirtual 97) 149 2 0 814 9, mj_n, mj_n, mj_o (.astore_n 3), mj_o (.aload_n 0), mj_o (.iload_n 2), mj_q (.invokevirtual 97) 149 2 0 814 9, mj_n, mj_n, mj_o (.astore 4), mj_n, mj_o (.aload_n 0), mj_q (.getfield 38) 9 7 0 425 0, mj_n, mj_n, mj_o (.aload 4), mj_n, mj_o (.aload_n 3), mj_q (.invokevirtual 288) 18 3 0 1276 1, mj_n, mj_n, mj_o .ireturn]
def mj_m125 : mj_M := (⟨"PolyRegisters", "divides", "(II)Z"⟩, prog_1_method_25_code, 5, some FieldType.boolean, mj_look mj_l125, [], 1, 1275, 108, 1273, 1274)
-- 126: PolyRegisters.areSame(II)Z
def mj_l126 : List (Option mj_I) := [mj_o (.aload_n 0), mj_o (.iload_n 1), mj_q (.invokevirtual 97) 149 2 0 814 9, mj_n, mj_n, mj_o (.aload_n 0), mj_o (.iload_n 2), mj_q (.invokevirtual 97) 149 2 0 814 9, mj_n, mj_n, mj_q (.invokestatic 291) 166 2 0 725 0, mj_n, mj_n, mj_o .ireturn]
def mj_m126 : mj_M := (⟨"PolyRegisters", "areSame", "(II)Z"⟩, prog_1_method_26_code, 3, some FieldType.boolean, mj_look mj_l126, [], 1, 1287, 108, 1285, 1286)
-- 127: PolyRegisters.agreements(II)I
def mj_l127 : List (Option mj_I) := [mj_o (.aload_n 0), mj_o (.iload_n 1), mj_q (.invokevirtual 97) 149 2 0 814 9, mj_n, mj_n, mj_o (.astore_n 3), mj_o (.aload_n 0), mj_o (.iload_n 2), mj_q (.invokevirtual 97) 149 2 0 814 9, mj_n, mj_n, mj_o (.astore 4), mj_n, mj_o (.iconst 0), mj_o (.aload_n 3), mj_q (.invokestatic 137) 162 1 0 553 0, mj_n, mj_n, mj_o (.aload 4), mj_n, mj_q (.invokestatic 137) 162 1 0 553 0, mj_n, mj_n, mj_q (.invokestatic 141) 0 0 2 953 0, mj_n, mj_n, mj_q (.invokestatic 141) 0 0 2 953 0, mj_n, mj_n, mj_o (.istore 5), mj_n, mj_o (.aload_n 3), mj_o (.aload 4), mj_n, mj_o (.iconst (-1)), mj_o (.aload_n 0), mj_q (.getfield 83) 9 14 0 432 0, mj_n, mj_n, mj_q (.invokestatic 101) 167 4 0 839 0, mj_n, mj_n, mj_o .pop, mj_o (.iconst 0), mj_o (.istore 6), mj_n, mj_o (.iconst 0), mj_o (.istore 7), mj_n, mj_o (.iload 7), mj_n, mj_o (.iload 5), mj_n, mj_q (.if_icmp .gt 29) 82 0 0 0 0, mj_n, mj_n, mj_o (.aload_n 0), mj_q (.getfield 38) 9 7 0 425 0, mj_n, mj_n, mj_o (.aload_n 0), mj_q (.getfield 83) 9 14 0 432 0, mj_n, mj_n, mj_o (.iload 7), mj_n, mj_o (.iconst 1), mj_q (.invokevirtual 277) 27 4 0 1246 1, mj_n, mj_n, mj_q (.ifCond .ne 6) 76 0 0 0 0, mj_n, mj_n, mj_o (.iinc 6 1), mj_n, mj_n, mj_o (.iinc 7 1), mj_n, mj_n, mj_q (.goto (-30)) 49 0 0 0 0, mj_n, mj_n, mj_o (.iload 6), mj_n, mj_o .ireturn]
def mj_m127 : mj_M := (⟨"PolyRegisters", "agreements", "(II)I"⟩, prog_1_method_27_code, 8, some FieldType.int, mj_look mj_l127, [], 1, 1294, 108, 1292, 1293)
-- 128: PolyRegisters.digits(Z)I
def mj_l128 : List (Option mj_I) := [mj_o (.aload_n 0), mj_o (.iload_n 1), mj_q (.invokevirtual 294) 157 2 0 509 9, mj_n, mj_n, mj_q (.invokevirtual 298) 98 1 0 513 8, mj_n, mj_n, mj_o .ireturn]
def mj_m128 : mj_M := (⟨"PolyRegisters", "digits", "(Z)I"⟩, prog_1_method_28_code, 2, some FieldType.int, mj_look mj_l128, [], 1, 508, 108, 506, 507)
-- 129: PolyRegisters.digit(ZI)I
def mj_l129 : List (Option mj_I) := [mj_o (.aload_n 0), mj_o (.iload_n 1), mj_q (.invokevirtual 294) 157 2 0 509 9, mj_n, mj_n, mj_o (.astore_n 3), mj_o (.iload_n 2), mj_q (.ifCond .lt 11) 18 0 0 0 0, mj_n, mj_n, mj_o (.iload_n 2), mj_o (.aload_n 3), mj_q (.invokevirtual 298) 98 1 0 513 8, mj_n, mj_n, mj_q (.if_icmp .lt 11) 26 0 0 0 0, mj_n, mj_n, mj_q (.new 264) 0 266 1 818 0, mj_n, mj_n, mj_n, mj_n, mj_n, mj_n, mj_n, mj_o (.aload_n 3), mj_o (.iload_n 2), mj_q (.invokevirtual 302) 99 2 0 1302 8, mj_n, mj_n, mj_o .ireturn]
def mj_m129 : mj_M := (⟨"PolyRegisters", "digit", "(ZI)I"⟩, prog_1_method_29_code, 4, some FieldType.int, mj_look mj_l129, [], 1, 1301, 108, 1299, 1300)
-- 130: PolyRegisters.low(Z)J
def mj_l130 : List (Option mj_I) := [mj_o (.aload_n 0), mj_o (.iload_n 1), mj_q (.invokevirtual 294) 157 2 0 509 9, mj_n, mj_n, mj_q (.invokevirtual 305) 100 1 0 525 8, mj_n, mj_n, mj_o .lreturn]
def mj_m130 : mj_M := (⟨"PolyRegisters", "low", "(Z)J"⟩, prog_1_method_30_code, 2, some FieldType.long, mj_look mj_l130, [], 1, 524, 108, 522, 523)
-- 131: PolyRegisters.realRoots(I)I
def mj_l131 : List (Option mj_I) := [mj_o (.aload_n 0), mj_o (.iload_n 1), mj_q (.invokevirtual 97) 149 2 0 814 9, mj_n, mj_n, mj_o (.astore_n 2), mj_o (.aload_n 2), mj_q (.invokestatic 133) 153 1 0 945 0, mj_n, mj_n, mj_o (.aload_n 0), mj_q (.getfield 47) 9 8 0 426 0, mj_n, mj_n, mj_o (.aload_n 2), mj_o (.aload_n 2), mj_q (.invokestatic 271) 169 1 0 989 0, mj_n, mj_n, mj_q (.invokevirtual 308) 68 3 0 1313 6, mj_n, mj_n, mj_o (.aload_n 0), mj_q (.getfield 47) 9 8 0 426 0, mj_n, mj_n, mj_o (.iconst (-1)), mj_q (.invokevirtual 311) 77 2 0 1320 6, mj_n, mj_n, mj_o (.aload_n 0), mj_q (.getfield 47) 9 8 0 426 0, mj_n, mj_n, mj_o (.iconst 1), mj_q (.invokevirtual 311) 77 2 0 1320 6, mj_n, mj_n, mj_o .isub, mj_o .ireturn]
def mj_m131 : mj_M := (⟨"PolyRegisters", "realRoots", "(I)I"⟩, prog_1_method_31_code, 3, some FieldType.int, mj_look mj_l131, [], 1, 1312, 108, 1310, 1311)
-- 132: PolyRegisters.rootsBetween(IIIII)I
def mj_l132_0 : List (Option mj_I) := [mj_o (.aload_n 0), mj_o (.iload_n 1), mj_q (.invokevirtual 97) 149 2 0 814 9, mj_n, mj_n, mj_o (.astore 6), mj_n, mj_o (.iload_n 2), mj_o (.iload_n 3), mj_q (.invokestatic 274) 151 2 0 1243 0, mj_n, mj_n, mj_o (.iload 4), mj_n, mj_o (.iload 5), mj_n, mj_q (.invokestatic 274) 151 2 0 1243 0, mj_n, mj_n, mj_o (.iload_n 2), mj_o (.iload 5), mj_n, mj_o .imul, mj_o (.iload 4), mj_n, mj_o (.iload_n 3), mj_o .imul, mj_q (.if_icmp .lt 11) 38 0 0 0 0, mj_n, mj_n, mj_q (.new 130) 2 132 1 886 0, mj_n, mj_n, mj_n, mj_n, mj_n, mj_n, mj_n, mj_o (.aload 6), mj_n, mj_q (.invokestatic 133) 153 1 0 945 0, mj_n, mj_n, mj_o (.aload_n 0), mj_q (.getfield 38) 9 7 0 425 0, mj_n, mj_n, mj_o (.aload 6), mj_n, mj_o (.iload_n 2), mj_o (.iload_n 3), mj_q (.invokevirtual 277) 27 4 0 1246 1, mj_n, mj_n, mj_q (.ifCond .eq 19) 73 0 0 0 0, mj_n, mj_n, mj_o (.aload_n 0), mj_q (.getfield 38) 9 7 0 425 0, mj_n, mj_n, mj_o (.aload 6), mj_n, mj_o (.iload 4), mj_n, mj_o (.iload 5), mj_n, mj_q (.invokevirtual 277) 27 4 0 1246 1, mj_n, mj_n, mj_q (.ifCond .ne 11) 81 0 0 0 0, mj_n, mj_n, mj_q (.new 105) 1 107 1 840 0, mj_n, mj_n, mj_n, mj_n, mj_n, mj_n, mj_n, mj_o (.aload_n 0), mj_q (.getfield 47) 9 8 0 426 0, mj_n, mj_n, mj_o (.aload 6), mj_n, mj_o (.aload 6), mj_n, mj_q (.invokestatic 271) 169 1 0 989 0, mj_n, mj_n, mj_q (.invokevirtual 308) 68 3 0 1313 6, mj_n, mj_n, mj_o (.aload_n 0), mj_q (.getfield 47) 9 8 0 426 0, mj_n, mj_n, mj_o (.iload_n 3), mj_o (.iload 5), mj_n, mj_o .imul, mj_o .i2l, mj_q (.invokevirtual 314) 74 2 0 1331 6, mj_n, mj_n, mj_o (.aload_n 0), mj_q (.getfield 47) 9 8 0 426 0, mj_n, mj_n, mj_o (.iload_n 2), mj_o (.iload 5), mj_n, mj_o .imul, mj_o .i2l, mj_q (.invokevirtual 317) 75 2 0 1336 6, mj_n, mj_n, mj_o (.aload_n 0)]
def mj_l132_1 : List (Option mj_I) := [mj_q (.getfield 47) 9 8 0 426 0, mj_n, mj_n, mj_o (.iload 4), mj_n, mj_o (.iload_n 3), mj_o .imul, mj_o .i2l, mj_q (.invokevirtual 317) 75 2 0 1336 6, mj_n, mj_n, mj_o .isub, mj_o .ireturn]
def mj_l132 : List (Option mj_I) := mj_l132_0 ++ (mj_l132_1)
def mj_m132 : mj_M := (⟨"PolyRegisters", "rootsBetween", "(IIIII)I"⟩, prog_1_method_32_code, 7, some FieldType.int, mj_look mj_l132, [], 1, 1330, 108, 1328, 1329)
-- 133: PolyRegisters.sturmLength(I)I
def mj_l133 : List (Option mj_I) := [mj_o (.aload_n 0), mj_o (.iload_n 1), mj_q (.invokevirtual 97) 149 2 0 814 9, mj_n, mj_n, mj_o (.astore_n 2), mj_o (.aload_n 2), mj_q (.invokestatic 133) 153 1 0 945 0, mj_n, mj_n, mj_o (.aload_n 0), mj_q (.getfield 47) 9 8 0 426 0, mj_n, mj_n, mj_o (.aload_n 2), mj_o (.aload_n 2), mj_q (.invokestatic 271) 169 1 0 989 0, mj_n, mj_n, mj_q (.invokevirtual 308) 68 3 0 1313 6, mj_n, mj_n, mj_o (.aload_n 0), mj_q (.getfield 47) 9 8 0 426 0, mj_n, mj_n, mj_q (.getfield 320) 6 2 0 304 0, mj_n, mj_n, mj_o .ireturn]
def mj_m133 : mj_M := (⟨"PolyRegisters", "sturmLength", "(I)I"⟩, prog_1_method_33_code, 3, some FieldType.int, mj_look mj_l133, [], 1, 1351, 108, 1349, 1350)
-- 134: PolyRegisters.changes(III)I
def mj_l134 : List (Option mj_I) := [mj_o (.aload_n 0), mj_o (.iload_n 1), mj_q (.invokevirtual 97) 149 2 0 814 9, mj_n, mj_n, mj_o (.astore 4), mj_n, mj_o (.iload_n 2), mj_o (.iload_n 3), mj_q (.invokestatic 274) 151 2 0 1243 0, mj_n, mj_n, mj_o (.aload 4), mj_n, mj_q (.invokestatic 133) 153 1 0 945 0, mj_n, mj_n, mj_o (.aload_n 0), mj_q (.getfield 47) 9 8 0 426 0, mj_n, mj_n, mj_o (.aload 4), mj_n, mj_o (.aload 4), mj_n, mj_q (.invokestatic 271) 169 1 0 989 0, mj_n, mj_n, mj_q (.invokevirtual 308) 68 3 0 1313 6, mj_n, mj_n, mj_o (.aload_n 0), mj_q (.getfield 47) 9 8 0 426 0, mj_n, mj_n, mj_o (.iload_n 3), mj_o .i2l, mj_q (.invokevirtual 314) 74 2 0 1331 6, mj_n, mj_n, mj_o (.aload_n 0), mj_q (.getfield 47) 9 8 0 426 0, mj_n, mj_n, mj_o (.iload_n 2), mj_o .i2l, mj_q (.invokevirtual 317) 75 2 0 1336 6, mj_n, mj_n, mj_o .ireturn]
def mj_m134 : mj_M := (⟨"PolyRegisters", "changes", "(III)I"⟩, prog_1_method_34_code, 5, some FieldType.int, mj_look mj_l134, [], 1, 1358, 108, 1356, 1357)
-- 135: PolyRegisters.closeIn(III)I
def mj_l135 : List (Option mj_I) := [mj_o (.aload_n 0), mj_o (.iload_n 1), mj_q (.invokevirtual 97) 149 2 0 814 9, mj_n, mj_n, mj_o (.astore 4), mj_n, mj_o (.iload_n 2), mj_q (.ifCond .lt 12) 20 0 0 0 0, mj_n, mj_n, mj_o (.iload_n 2), mj_o (.aload 4), mj_n, mj_q (.invokestatic 137) 162 1 0 553 0, mj_n, mj_n, mj_q (.if_icmp .lt 11) 28 0 0 0 0, mj_n, mj_n, mj_q (.new 264) 0 266 1 818 0, mj_n, mj_n, mj_n, mj_n, mj_n, mj_n, mj_n, mj_o (.aload_n 0), mj_q (.getfield 56) 9 9 0 427 0, mj_n, mj_n, mj_o (.aload 4), mj_n, mj_q (.invokevirtual 162) 61 2 0 1108 5, mj_n, mj_n, mj_o (.iload_n 2), mj_o (.aload_n 0), mj_q (.getfield 56) 9 9 0 427 0, mj_n, mj_n, mj_q (.invokevirtual 321) 63 1 0 1366 5, mj_n, mj_n, mj_q (.if_icmp .lt 11) 56 0 0 0 0, mj_n, mj_n, mj_q (.new 264) 0 266 1 818 0, mj_n, mj_n, mj_n, mj_n, mj_n, mj_n, mj_n, mj_o (.iload_n 3), mj_q (.ifCond .lt 9) 66 0 0 0 0, mj_n, mj_n, mj_o (.iload_n 3), mj_o (.bipush 20), mj_n, mj_q (.if_icmp .le 11) 74 0 0 0 0, mj_n, mj_n, mj_q (.new 130) 2 132 1 886 0, mj_n, mj_n, mj_n, mj_n, mj_n, mj_n, mj_n, mj_o (.aload_n 0), mj_q (.getfield 56) 9 9 0 427 0, mj_n, mj_n, mj_o (.lconst 1), mj_o (.iload_n 3), mj_o .lshl, mj_q (.invokevirtual 324) 64 2 0 1371 5, mj_n, mj_n, mj_o (.aload_n 0), mj_q (.getfield 56) 9 9 0 427 0, mj_n, mj_n, mj_o (.iload_n 2), mj_q (.invokevirtual 325) 65 2 0 1377 5, mj_n, mj_n, mj_o (.aload_n 0), mj_o (.aload_n 0), mj_q (.getfield 56) 9 9 0 427 0, mj_n, mj_n, mj_q (.getfield 328) 5 6 0 342 0, mj_n, mj_n, mj_o (.lconst 1), mj_o (.iconst 1), mj_q (.invokevirtual 284) 159 4 0 1258 9, mj_n, mj_n, mj_o .ireturn]
def mj_m135 : mj_M := (⟨"PolyRegisters", "closeIn", "(III)I"⟩, prog_1_method_35_code, 5, some FieldType.int, mj_look mj_l135, [], 1, 1365, 108, 1363, 1364)
-- 136: PolyRegisters.fractionRoots(I)I
def mj_l136 : List (Option mj_I) := [mj_o (.aload_n 0), mj_o (.iload_n 1), mj_q (.invokevirtual 97) 149 2 0 814 9, mj_n, mj_n, mj_o (.astore_n 2), mj_o (.aload_n 2), mj_q (.invokestatic 133) 153 1 0 945 0, mj_n, mj_n, mj_o (.aload_n 0), mj_q (.getfield 56) 9 9 0 427 0, mj_n, mj_n, mj_o (.aload_n 2), mj_q (.invokevirtual 162) 61 2 0 1108 5, mj_n, mj_n, mj_o (.aload_n 0), mj_q (.getfield 56) 9 9 0 427 0, mj_n, mj_n, mj_q (.invokevirtual 321) 63 1 0 1366 5, mj_n, mj_n, mj_o .pop, mj_o (.aload_n 0), mj_q (.getfield 56) 9 9 0 427 0, mj_n, mj_n, mj_o (.bipush 12), mj_n, mj_q (.invokevirtual 331) 66 2 0 1392 5, mj_n, mj_n, mj_o .ireturn]
def mj_m136 : mj_M := (⟨"PolyRegisters", "fractionRoots", "(I)I"⟩, prog_1_method_36_code, 3, some FieldType.int, mj_look mj_l136, [], 1, 1391, 108, 1389, 1390)
-- 137: PolyRegisters.fractionRoot(II)I
def mj_l137 : List (Option mj_I) := [mj_o (.aload_n 0), mj_o (.iload_n 1), mj_q (.invokevirtual 97) 149 2 0 814 9, mj_n, mj_n, mj_o (.astore_n 3), mj_o (.iload_n 2), mj_q (.ifCond .lt 11) 18 0 0 0 0, mj_n, mj_n, mj_o (.iload_n 2), mj_o (.aload_n 3), mj_q (.invokestatic 137) 162 1 0 553 0, mj_n, mj_n, mj_q (.if_icmp .lt 11) 26 0 0 0 0, mj_n, mj_n, mj_q (.new 264) 0 266 1 818 0, mj_n, mj_n, mj_n, mj_n, mj_n, mj_n, mj_n, mj_o (.aload_n 0), mj_q (.getfield 56) 9 9 0 427 0, mj_n, mj_n, mj_o (.aload_n 3), mj_q (.invokevirtual 162) 61 2 0 1108 5, mj_n, mj_n, mj_o (.aload_n 0), mj_q (.getfield 56) 9 9 0 427 0, mj_n, mj_n, mj_q (.invokevirtual 321) 63 1 0 1366 5, mj_n, mj_n, mj_o .pop, mj_o (.aload_n 0), mj_q (.getfield 56) 9 9 0 427 0, mj_n, mj_n, mj_o (.iload_n 2), mj_o (.iconst 1), mj_o .iadd, mj_q (.invokevirtual 331) 66 2 0 1392 5, mj_n, mj_n, mj_o (.iload_n 2), mj_q (.if_icmp .gt 11) 64 0 0 0 0, mj_n, mj_n, mj_q (.new 264) 0 266 1 818 0, mj_n, mj_n, mj_n, mj_n, mj_n, mj_n, mj_n, mj_o (.aload_n 0), mj_o (.aload_n 0), mj_q (.getfield 56) 9 9 0 427 0, mj_n, mj_n, mj_q (.getfield 328) 5 6 0 342 0, mj_n, mj_n, mj_o (.aload_n 0), mj_q (.getfield 56) 9 9 0 427 0, mj_n, mj_n, mj_q (.getfield 334) 5 5 0 340 0, mj_n, mj_n, mj_o (.iconst 1), mj_q (.invokevirtual 284) 159 4 0 1258 9, mj_n, mj_n, mj_o .ireturn]
def mj_m137 : mj_M := (⟨"PolyRegisters", "fractionRoot", "(II)I"⟩, prog_1_method_37_code, 4, some FieldType.int, mj_look mj_l137, [], 1, 1404, 108, 1402, 1403)
-- 138: PolyRegisters.rootsBy(II)I
def mj_l138 : List (Option mj_I) := [mj_o (.aload_n 0), mj_o (.iload_n 1), mj_q (.invokevirtual 97) 149 2 0 814 9, mj_n, mj_n, mj_o (.astore_n 3), mj_o (.iload_n 2), mj_q (.invokestatic 169) 152 1 0 1135 0, mj_n, mj_n, mj_o (.iconst 0), mj_o (.istore 4), mj_n, mj_o (.iconst 0), mj_o (.istore 5), mj_n, mj_o (.iload 5), mj_n, mj_o (.iload_n 2), mj_q (.if_icmp .ge 22) 41 0 0 0 0, mj_n, mj_n, mj_o (.aload_n 3), mj_o (.iload 5), mj_n, mj_o (.iload_n 2), mj_q (.invokestatic 338) 173 3 0 1412 0, mj_n, mj_n, mj_q (.ifCond .ne 6) 35 0 0 0 0, mj_n, mj_n, mj_o (.iinc 4 1), mj_n, mj_n, mj_o (.iinc 5 1), mj_n, mj_n, mj_q (.goto (-22)) 16 0 0 0 0, mj_n, mj_n, mj_o (.iload 4), mj_n, mj_o .ireturn]
def mj_m138 : mj_M := (⟨"PolyRegisters", "rootsBy", "(II)I"⟩, prog_1_method_38_code, 6, some FieldType.int, mj_look mj_l138, [], 1, 1411, 108, 1409, 1410)
-- 139: PolyRegisters.rootBy(II)I
def mj_l139 : List (Option mj_I) := [mj_o (.aload_n 0), mj_o (.iload_n 1), mj_q (.invokevirtual 97) 149 2 0 814 9, mj_n, mj_n, mj_o (.astore_n 3), mj_o (.iload_n 2), mj_q (.invokestatic 169) 152 1 0 1135 0, mj_n, mj_n, mj_o (.iconst 0), mj_o (.istore 4), mj_n, mj_o (.iload 4), mj_n, mj_o (.iload_n 2), mj_q (.if_icmp .ge 22) 38 0 0 0 0, mj_n, mj_n, mj_o (.aload_n 3), mj_o (.iload 4), mj_n, mj_o (.iload_n 2), mj_q (.invokestatic 338) 173 3 0 1412 0, mj_n, mj_n, mj_q (.ifCond .ne 6) 32 0 0 0 0, mj_n, mj_n, mj_o (.iload 4), mj_n, mj_o .ireturn, mj_o (.iinc 4 1), mj_n, mj_n, mj_q (.goto (-22)) 13 0 0 0 0, mj_n, mj_n, mj_q (.new 341) 4 343 1 1423 0, mj_n, mj_n, mj_n, mj_n, mj_n, mj_n, mj_n]
def mj_m139 : mj_M := (⟨"PolyRegisters", "rootBy", "(II)I"⟩, prog_1_method_39_code, 5, some FieldType.int, mj_look mj_l139, [], 1, 1422, 108, 1420, 1421)
-- 140: PolyRegisters.pointCount()I
def mj_l140 : List (Option mj_I) := [mj_o (.aload_n 0), mj_q (.getfield 12) 9 0 0 418 0, mj_n, mj_n, mj_q (.getfield 198) 0 3 0 152 0, mj_n, mj_n, mj_o .ireturn]
def mj_m140 : mj_M := (⟨"PolyRegisters", "pointCount", "()I"⟩, prog_1_method_40_code, 1, some FieldType.int, mj_look mj_l140, [], 1, 532, 108, 530, 531)
-- 141: PolyRegisters.append(IIIII)I
def mj_l141 : List (Option mj_I) := [mj_o (.iload_n 1), mj_q (.invokestatic 344) 160 1 0 1445 0, mj_n, mj_n, mj_o (.iload_n 2), mj_q (.invokestatic 344) 160 1 0 1445 0, mj_n, mj_n, mj_o .iadd, mj_o (.iload_n 3), mj_q (.invokestatic 344) 160 1 0 1445 0, mj_n, mj_n, mj_o .iadd, mj_o (.iload 4), mj_n, mj_q (.invokestatic 344) 160 1 0 1445 0, mj_n, mj_n, mj_o .iadd, mj_o (.iload 5), mj_n, mj_q (.invokestatic 344) 160 1 0 1445 0, mj_n, mj_n, mj_o .iadd, mj_o (.istore 6), mj_n, mj_o (.aload_n 0), mj_q (.getfield 25) 9 4 0 422 0, mj_n, mj_n, mj_q (.getfield 184) 7 1 0 174 0, mj_n, mj_n, mj_o (.iload 6), mj_n, mj_o .iadd, mj_o (.sipush 200), mj_n, mj_n, mj_q (.if_icmp .le 11) 52 0 0 0 0, mj_n, mj_n, mj_q (.new 105) 1 107 1 840 0, mj_n, mj_n, mj_n, mj_n, mj_n, mj_n, mj_n, mj_o (.aload_n 0), mj_q (.getfield 25) 9 4 0 422 0, mj_n, mj_n, mj_o (.iload_n 1), mj_q (.invokevirtual 347) 81 2 0 1448 7, mj_n, mj_n, mj_o (.aload_n 0), mj_q (.getfield 25) 9 4 0 422 0, mj_n, mj_n, mj_o (.iload_n 2), mj_q (.invokevirtual 347) 81 2 0 1448 7, mj_n, mj_n, mj_o (.aload_n 0), mj_q (.getfield 25) 9 4 0 422 0, mj_n, mj_n, mj_o (.iload_n 3), mj_q (.invokevirtual 347) 81 2 0 1448 7, mj_n, mj_n, mj_o (.aload_n 0), mj_q (.getfield 25) 9 4 0 422 0, mj_n, mj_n, mj_o (.iload 4), mj_n, mj_q (.invokevirtual 347) 81 2 0 1448 7, mj_n, mj_n, mj_o (.aload_n 0), mj_q (.getfield 25) 9 4 0 422 0, mj_n, mj_n, mj_o (.iload 5), mj_n, mj_q (.invokevirtual 347) 81 2 0 1448 7, mj_n, mj_n, mj_o (.aload_n 0), mj_q (.getfield 25) 9 4 0 422 0, mj_n, mj_n, mj_q (.getfield 184) 7 1 0 174 0, mj_n, mj_n, mj_o .ireturn]
def mj_m141 : mj_M := (⟨"PolyRegisters", "append", "(IIIII)I"⟩, prog_1_method_41_code, 7, some FieldType.int, mj_look mj_l141, [], 1, 1444, 108, 1442, 1443)
-- 142: PolyRegisters.clearText()I
def mj_l142 : List (Option mj_I) := [mj_o (.aload_n 0), mj_q (.getfield 25) 9 4 0 422 0, mj_n, mj_n, mj_q (.getfield 184) 7 1 0 174 0, mj_n, mj_n, mj_o (.istore_n 1), mj_o (.aload_n 0), mj_q (.getfield 25) 9 4 0 422 0, mj_n, mj_n, mj_o (.iconst 0), mj_q (.putfield 184) 7 1 0 174 0, mj_n, mj_n, mj_o (.iload_n 1), mj_o .ireturn]
def mj_m142 : mj_M := (⟨"PolyRegisters", "clearText", "()I"⟩, prog_1_method_42_code, 2, some FieldType.int, mj_look mj_l142, [], 1, 536, 108, 534, 535)
-- 143: PolyRegisters.errorPosition()I
def mj_l143 : List (Option mj_I) := [mj_o (.aload_n 0), mj_q (.getfield 86) 9 15 0 433 0, mj_n, mj_n, mj_o .ireturn]
def mj_m143 : mj_M := (⟨"PolyRegisters", "errorPosition", "()I"⟩, prog_1_method_43_code, 1, some FieldType.int, mj_look mj_l143, [], 1, 540, 108, 538, 539)
-- 144: PolyRegisters.write(I)I
def mj_l144 : List (Option mj_I) := [mj_o (.aload_n 0), mj_q (.getfield 29) 9 5 0 423 0, mj_n, mj_n, mj_o (.aload_n 0), mj_o (.iload_n 1), mj_q (.invokevirtual 97) 149 2 0 814 9, mj_n, mj_n, mj_q (.invokevirtual 350) 82 2 0 622 7, mj_n, mj_n, mj_o (.aload_n 0), mj_q (.getfield 29) 9 5 0 423 0, mj_n, mj_n, mj_q (.getfield 184) 7 1 0 174 0, mj_n, mj_n, mj_o .ireturn]
def mj_m144 : mj_M := (⟨"PolyRegisters", "write", "(I)I"⟩, prog_1_method_44_code, 2, some FieldType.int, mj_look mj_l144, [], 1, 1458, 108, 1456, 1457)
-- 145: PolyRegisters.writtenAt(I)I
def mj_l145 : List (Option mj_I) := [mj_o (.iload_n 1), mj_q (.ifCond .lt 14) 15 0 0 0 0, mj_n, mj_n, mj_o (.iload_n 1), mj_o (.aload_n 0), mj_q (.getfield 29) 9 5 0 423 0, mj_n, mj_n, mj_q (.getfield 184) 7 1 0 174 0, mj_n, mj_n, mj_q (.if_icmp .lt 11) 23 0 0 0 0, mj_n, mj_n, mj_q (.new 264) 0 266 1 818 0, mj_n, mj_n, mj_n, mj_n, mj_n, mj_n, mj_n, mj_o (.aload_n 0), mj_q (.getfield 29) 9 5 0 423 0, mj_n, mj_n, mj_o (.iload_n 1), mj_q (.invokevirtual 353) 79 2 0 1466 7, mj_n, mj_n, mj_o .ireturn]
def mj_m145 : mj_M := (⟨"PolyRegisters", "writtenAt", "(I)I"⟩, prog_1_method_45_code, 2, some FieldType.int, mj_look mj_l145, [], 1, 1465, 108, 1463, 1464)
-- 146: PolyRegisters.meanTerms()D
def mj_l146 : List (Option mj_I) := [mj_o (.iconst 0), mj_o (.istore_n 1), mj_o (.iconst 0), mj_o (.istore_n 2), mj_o (.iload_n 2), mj_o (.aload_n 0), mj_q (.getfield 12) 9 0 0 418 0, mj_n, mj_n, mj_q (.getfield 356) 0 0 0 148 0, mj_n, mj_n, mj_o .arraylength, mj_q (.if_icmp .ge 24) 37 0 0 0 0, mj_n, mj_n, mj_o (.iload_n 1), mj_o (.aload_n 0), mj_q (.getfield 12) 9 0 0 418 0, mj_n, mj_n, mj_q (.getfield 356) 0 0 0 148 0, mj_n, mj_n, mj_o (.iload_n 2), mj_o .aaload, mj_q (.invokestatic 261) 163 1 0 545 0, mj_n, mj_n, mj_o .iadd, mj_o (.istore_n 1), mj_o (.iinc 2 1), mj_n, mj_n, mj_q (.goto (-30)) 4 0 0 0 0, mj_n, mj_n, mj_o (.iload_n 1), mj_o .i2d, mj_q (.ldc2_w 360) 4618441417868443648 1 0 548 0, mj_n, mj_n, mj_o .ddiv, mj_o .dreturn]
def mj_m146 : mj_M := (⟨"PolyRegisters", "meanTerms", "()D"⟩, prog_1_method_46_code, 3, some FieldType.double, mj_look mj_l146, [], 1, 544, 108, 542, 543)
-- 147: PolyRegisters.usedShare()F
def mj_l147 : List (Option mj_I) := [mj_o (.iconst 0), mj_o (.istore_n 1), mj_o (.iconst 0), mj_o (.istore_n 2), mj_o (.iload_n 2), mj_o (.aload_n 0), mj_q (.getfield 12) 9 0 0 418 0, mj_n, mj_n, mj_q (.getfield 356) 0 0 0 148 0, mj_n, mj_n, mj_o .arraylength, mj_q (.if_icmp .ge 27) 40 0 0 0 0, mj_n, mj_n, mj_o (.aload_n 0), mj_q (.getfield 12) 9 0 0 418 0, mj_n, mj_n, mj_q (.getfield 356) 0 0 0 148 0, mj_n, mj_n, mj_o (.iload_n 2), mj_o .aaload, mj_q (.invokestatic 137) 162 1 0 553 0, mj_n, mj_n, mj_q (.ifCond .lt 6) 34 0 0 0 0, mj_n, mj_n, mj_o (.iinc 1 1), mj_n, mj_n, mj_o (.iinc 2 1), mj_n, mj_n, mj_q (.goto (-33)) 4 0 0 0 0, mj_n, mj_n, mj_o (.iload_n 1), mj_o .i2f, mj_q (.ldc_w 362) 1086324736 1 0 556 0, mj_n, mj_n, mj_o .fdiv, mj_o .freturn]
def mj_m147 : mj_M := (⟨"PolyRegisters", "usedShare", "()F"⟩, prog_1_method_47_code, 3, some FieldType.float, mj_look mj_l147, [], 1, 552, 108, 550, 551)
-- 148: PolyRegisters.errors()I
def mj_l148_0 : List (Option mj_I) := [mj_o (.iconst 0), mj_o (.istore_n 1), mj_o (.iconst 0), mj_o (.istore_n 2), mj_o (.iload_n 2), mj_o (.aload_n 0), mj_q (.getfield 12) 9 0 0 418 0, mj_n, mj_n, mj_q (.getfield 356) 0 0 0 148 0, mj_n, mj_n, mj_o .arraylength, mj_q (.if_icmp .ge 62) 75 0 0 0 0, mj_n, mj_n, mj_o (.iload_n 2), mj_o (.iconst 1), mj_o .iadd, mj_o (.istore_n 3), mj_o (.iload_n 3), mj_o (.aload_n 0), mj_q (.getfield 12) 9 0 0 418 0, mj_n, mj_n, mj_q (.getfield 356) 0 0 0 148 0, mj_n, mj_n, mj_o .arraylength, mj_q (.if_icmp .ge 40) 69 0 0 0 0, mj_n, mj_n, mj_o (.aload_n 0), mj_q (.getfield 38) 9 7 0 425 0, mj_n, mj_n, mj_o (.aload_n 0), mj_q (.getfield 12) 9 0 0 418 0, mj_n, mj_n, mj_q (.getfield 356) 0 0 0 148 0, mj_n, mj_n, mj_o (.iload_n 2), mj_o .aaload, mj_o (.aload_n 0), mj_q (.getfield 12) 9 0 0 418 0, mj_n, mj_n, mj_q (.getfield 356) 0 0 0 148 0, mj_n, mj_n, mj_o (.iload_n 3), mj_o .aaload, mj_q (.invokevirtual 363) 15 3 0 561 1, mj_n, mj_n, mj_q (.ifCond .ne 6) 63 0 0 0 0, mj_n, mj_n, mj_o (.iinc 1 1), mj_n, mj_n, mj_o (.iinc 3 1), mj_n, mj_n, mj_q (.goto (-46)) 20 0 0 0 0, mj_n, mj_n, mj_o (.iinc 2 1), mj_n, mj_n, mj_q (.goto (-68)) 4 0 0 0 0, mj_n, mj_n, mj_o (.iconst 0), mj_o (.istore_n 2), mj_o (.iload_n 2), mj_o (.aload_n 0), mj_q (.getfield 12) 9 0 0 418 0, mj_n, mj_n, mj_q (.getfield 356) 0 0 0 148 0, mj_n, mj_n, mj_o .arraylength, mj_q (.if_icmp .ge 74) 160 0 0 0 0, mj_n, mj_n, mj_o (.aload_n 0), mj_q (.getfield 32) 9 6 0 424 0, mj_n, mj_n, mj_o (.aload_n 0), mj_q (.getfield 12) 9 0 0 418 0, mj_n, mj_n, mj_q (.getfield 356) 0 0 0 148 0, mj_n, mj_n, mj_o (.iload_n 2), mj_o .aaload, mj_q (.invokevirtual 350) 82 2 0 622 7, mj_n, mj_n, mj_o (.aload_n 0), mj_q (.getfield 65) 9 10 0 428 0, mj_n, mj_n, mj_o (.aload_n 0), mj_q (.getfield 32) 9 6 0 424 0, mj_n, mj_n, mj_q (.invokevirtual 180) 46 2 0 640 4, mj_n, mj_n, mj_q (.ifCond .eq 35) 151 0 0 0 0, mj_n, mj_n, mj_o (.aload_n 0)]
def mj_l148_1 : List (Option mj_I) := [mj_q (.getfield 65) 9 10 0 428 0, mj_n, mj_n, mj_q (.getfield 190) 4 4 0 386 0, mj_n, mj_n, mj_q (.ifCond .ne 25) 151 0 0 0 0, mj_n, mj_n, mj_o (.aload_n 0), mj_q (.getfield 65) 9 10 0 428 0, mj_n, mj_n, mj_q (.invokevirtual 194) 47 1 0 721 4, mj_n, mj_n, mj_o (.aload_n 0), mj_q (.getfield 12) 9 0 0 418 0, mj_n, mj_n, mj_q (.getfield 356) 0 0 0 148 0, mj_n, mj_n, mj_o (.iload_n 2), mj_o .aaload, mj_q (.invokestatic 291) 166 2 0 725 0, mj_n, mj_n, mj_q (.ifCond .ne 6) 154 0 0 0 0, mj_n, mj_n, mj_o (.iinc 1 1), mj_n, mj_n, mj_o (.iinc 2 1), mj_n, mj_n, mj_q (.goto (-80)) 77 0 0 0 0, mj_n, mj_n, mj_o (.iload_n 1), mj_o .ireturn]
def mj_l148 : List (Option mj_I) := mj_l148_0 ++ (mj_l148_1)
def mj_m148 : mj_M := (⟨"PolyRegisters", "errors", "()I"⟩, prog_1_method_48_code, 4, some FieldType.int, mj_look mj_l148, [], 1, 560, 108, 558, 559)
-- 149: PolyRegisters.rowOf(I)[J
def mj_l149 : List (Option mj_I) := [mj_o (.iload_n 1), mj_q (.ifCond .lt 15) 16 0 0 0 0, mj_n, mj_n, mj_o (.iload_n 1), mj_o (.aload_n 0), mj_q (.getfield 12) 9 0 0 418 0, mj_n, mj_n, mj_q (.getfield 356) 0 0 0 148 0, mj_n, mj_n, mj_o .arraylength, mj_q (.if_icmp .lt 11) 24 0 0 0 0, mj_n, mj_n, mj_q (.new 264) 0 266 1 818 0, mj_n, mj_n, mj_n, mj_n, mj_n, mj_n, mj_n, mj_o (.aload_n 0), mj_q (.getfield 12) 9 0 0 418 0, mj_n, mj_n, mj_q (.getfield 356) 0 0 0 148 0, mj_n, mj_n, mj_o (.iload_n 1), mj_o .aaload, mj_o .areturn]
def mj_m149 : mj_M := (⟨"PolyRegisters", "rowOf", "(I)[J"⟩, prog_1_method_49_code, 2, some (FieldType.array FieldType.long), mj_look mj_l149, [], 1, 817, 108, 816, 20)
-- 150: PolyRegisters.checkExponent(I)V
def mj_l150 : List (Option mj_I) := [mj_o (.iload_n 0), mj_q (.ifCond .lt 9) 10 0 0 0 0, mj_n, mj_n, mj_o (.iload_n 0), mj_o (.bipush 12), mj_n, mj_q (.if_icmp .le 11) 18 0 0 0 0, mj_n, mj_n, mj_q (.new 130) 2 132 1 886 0, mj_n, mj_n, mj_n, mj_n, mj_n, mj_n, mj_n, mj_o .return_]
def mj_m150 : mj_M := (⟨"PolyRegisters", "checkExponent", "(I)V"⟩, prog_1_method_50_code, 1, none, mj_look mj_l150, [], 0, 885, 108, 884, 0)
-- 151: PolyRegisters.checkFraction(II)V
def mj_l151 : List (Option mj_I) := [mj_o (.iload_n 0), mj_o (.sipush (-1000)), mj_n, mj_n, mj_q (.if_icmp .lt 22) 26 0 0 0 0, mj_n, mj_n, mj_o (.iload_n 0), mj_o (.sipush 1000), mj_n, mj_n, mj_q (.if_icmp .gt 15) 26 0 0 0 0, mj_n, mj_n, mj_o (.iload_n 1), mj_o (.iconst 1), mj_q (.if_icmp .lt 10) 26 0 0 0 0, mj_n, mj_n, mj_o (.iload_n 1), mj_o (.sipush 1000), mj_n, mj_n, mj_q (.if_icmp .le 11) 34 0 0 0 0, mj_n, mj_n, mj_q (.new 130) 2 132 1 886 0, mj_n, mj_n, mj_n, mj_n, mj_n, mj_n, mj_n, mj_o .return_]
def mj_m151 : mj_M := (⟨"PolyRegisters", "checkFraction", "(II)V"⟩, prog_1_method_51_code, 2, none, mj_look mj_l151, [], 0, 1245, 108, 1244, 0)
-- 152: PolyRegisters.checkPrime(I)V
def mj_l152 : List (Option mj_I) := [mj_o (.iload_n 0), mj_o (.iconst 2), mj_q (.if_icmp .lt 13) 15 0 0 0 0, mj_n, mj_n, mj_o (.iload_n 0), mj_o (.bipush 97), mj_n, mj_q (.if_icmp .gt 7) 15 0 0 0 0, mj_n, mj_n, mj_o (.iconst 1), mj_q (.goto 4) 16 0 0 0 0, mj_n, mj_n, mj_o (.iconst 0), mj_o (.istore_n 1), mj_o (.iconst 2), mj_o (.istore_n 2), mj_o (.iload_n 2), mj_o (.iload_n 2), mj_o .imul, mj_o (.bipush 97), mj_n, mj_q (.if_icmp .gt 30) 54 0 0 0 0, mj_n, mj_n, mj_o (.iload_n 1), mj_q (.ifCond .eq 18) 46 0 0 0 0, mj_n, mj_n, mj_o (.iload_n 0), mj_o (.iload_n 2), mj_q (.if_icmp .eq 9) 42 0 0 0 0, mj_n, mj_n, mj_o (.iload_n 0), mj_o (.iload_n 2), mj_o .irem, mj_q (.ifCond .eq 7) 46 0 0 0 0, mj_n, mj_n, mj_o (.iconst 1), mj_q (.goto 4) 47 0 0 0 0, mj_n, mj_n, mj_o (.iconst 0), mj_o (.istore_n 1), mj_o (.iinc 2 1), mj_n, mj_n, mj_q (.goto (-32)) 19 0 0 0 0, mj_n, mj_n, mj_o (.iload_n 1), mj_q (.ifCond .ne 11) 66 0 0 0 0, mj_n, mj_n, mj_q (.new 130) 2 132 1 886 0, mj_n, mj_n, mj_n, mj_n, mj_n, mj_n, mj_n, mj_o .return_]
def mj_m152 : mj_M := (⟨"PolyRegisters", "checkPrime", "(I)V"⟩, prog_1_method_52_code, 3, none, mj_look mj_l152, [], 0, 1137, 108, 1136, 0)
-- 153: PolyRegisters.checkNotZero([J)V
def mj_l153 : List (Option mj_I) := [mj_o (.aload_n 0), mj_q (.invokestatic 137) 162 1 0 553 0, mj_n, mj_n, mj_q (.ifCond .ge 11) 15 0 0 0 0, mj_n, mj_n, mj_q (.new 366) 3 368 1 948 0, mj_n, mj_n, mj_n, mj_n, mj_n, mj_n, mj_n, mj_o .return_]
def mj_m153 : mj_M := (⟨"PolyRegisters", "checkNotZero", "([J)V"⟩, prog_1_method_53_code, 1, none, mj_look mj_l153, [], 0, 947, 108, 946, 0)
-- 154: PolyRegisters.keep(I)I
def mj_l154 : List (Option mj_I) := [mj_o (.aload_n 0), mj_q (.invokevirtual 205) 156 1 0 471 9, mj_n, mj_n, mj_o (.aload_n 0), mj_q (.getfield 79) 9 13 0 431 0, mj_n, mj_n, mj_o (.aload_n 0), mj_o (.iload_n 1), mj_q (.invokevirtual 97) 149 2 0 814 9, mj_n, mj_n, mj_q (.invokestatic 151) 164 2 0 859 0, mj_n, mj_n, mj_o (.aload_n 0), mj_q (.getfield 79) 9 13 0 431 0, mj_n, mj_n, mj_q (.invokestatic 137) 162 1 0 553 0, mj_n, mj_n, mj_o .ireturn]
def mj_m154 : mj_M := (⟨"PolyRegisters", "keep", "(I)I"⟩, prog_1_method_54_code, 2, some FieldType.int, mj_look mj_l154, [], 1, 858, 108, 857, 21)
-- 155: PolyRegisters.earlierBench()LPolyRegisters$Bench;
def mj_l155 : List (Option mj_I) := [mj_o (.aload_n 0), mj_q (.getfield 16) 9 1 0 419 0, mj_n, mj_n, mj_o (.aload_n 0), mj_q (.getfield 250) 9 3 0 421 0, mj_n, mj_n, mj_q (.ifCond .lt 22) 30 0 0 0 0, mj_n, mj_n, mj_o (.aload_n 0), mj_q (.getfield 250) 9 3 0 421 0, mj_n, mj_n, mj_o (.aload_n 0), mj_q (.getfield 16) 9 1 0 419 0, mj_n, mj_n, mj_o .arraylength, mj_q (.if_icmp .ge 10) 30 0 0 0 0, mj_n, mj_n, mj_o (.aload_n 0), mj_q (.getfield 250) 9 3 0 421 0, mj_n, mj_n, mj_q (.goto 4) 31 0 0 0 0, mj_n, mj_n, mj_o (.iconst 0), mj_o .aaload, mj_o .areturn]
def mj_m155 : mj_M := (⟨"PolyRegisters", "earlierBench", "()LPolyRegisters$Bench;"⟩, prog_1_method_55_code, 1, some (FieldType.object "PolyRegisters$Bench"), mj_look mj_l155, [], 1, 478, 108, 477, 1)
-- 156: PolyRegisters.keepEarlier()V
def mj_l156 : List (Option mj_I) := [mj_o (.aload_n 0), mj_q (.invokevirtual 253) 155 1 0 475 9, mj_n, mj_n, mj_o (.aload_n 0), mj_q (.getfield 12) 9 0 0 418 0, mj_n, mj_n, mj_q (.invokevirtual 257) 2 2 0 479 0, mj_n, mj_n, mj_o (.aload_n 0), mj_o (.aload_n 0), mj_q (.getfield 250) 9 3 0 421 0, mj_n, mj_n, mj_o (.iconst 1), mj_o .iadd, mj_o (.bipush 8), mj_n, mj_o .irem, mj_q (.putfield 250) 9 3 0 421 0, mj_n, mj_n, mj_o (.aload_n 0), mj_o (.aload_n 0), mj_q (.getfield 247) 9 2 0 420 0, mj_n, mj_n, mj_o (.iconst 1), mj_o .iadd, mj_o (.bipush 8), mj_n, mj_q (.invokestatic 369) 0 0 3 498 0, mj_n, mj_n, mj_q (.putfield 247) 9 2 0 420 0, mj_n, mj_n, mj_o .return_]
def mj_m156 : mj_M := (⟨"PolyRegisters", "keepEarlier", "()V"⟩, prog_1_method_56_code, 1, none, mj_look mj_l156, [], 1, 474, 108, 473, 0)
-- 157: PolyRegisters.told(Z)LPolyRegisters$Wide;
def mj_l157 : List (Option mj_I) := [mj_o (.iload_n 1), mj_q (.ifCond .eq 10) 11 0 0 0 0, mj_n, mj_n, mj_o (.aload_n 0), mj_q (.getfield 76) 9 12 0 430 0, mj_n, mj_n, mj_q (.goto 7) 15 0 0 0 0, mj_n, mj_n, mj_o (.aload_n 0), mj_q (.getfield 72) 9 11 0 429 0, mj_n, mj_n, mj_o .areturn]
def mj_m157 : mj_M := (⟨"PolyRegisters", "told", "(Z)LPolyRegisters$Wide;"⟩, prog_1_method_57_code, 2, some (FieldType.object "PolyRegisters$Wide"), mj_look mj_l157, [], 1, 512, 108, 511, 3)
-- 158: PolyRegisters.tellLong(J)I
def mj_l158 : List (Option mj_I) := [mj_o (.aload_n 0), mj_q (.getfield 72) 9 11 0 429 0, mj_n, mj_n, mj_o (.lload_n 1), mj_q (.invokevirtual 93) 86 2 0 417 8, mj_n, mj_n, mj_o (.aload_n 0), mj_q (.getfield 76) 9 12 0 430 0, mj_n, mj_n, mj_o (.lconst 1), mj_q (.invokevirtual 93) 86 2 0 417 8, mj_n, mj_n, mj_o (.aload_n 0), mj_q (.getfield 72) 9 11 0 429 0, mj_n, mj_n, mj_q (.getfield 372) 8 2 0 210 1, mj_n, mj_n, mj_o .ireturn]
def mj_m158 : mj_M := (⟨"PolyRegisters", "tellLong", "(J)I"⟩, prog_1_method_58_code, 3, some FieldType.int, mj_look mj_l158, [], 1, 1228, 108, 1227, 28)
-- 159: PolyRegisters.tellQuotient(LPolyRegisters$Wide;JI)I
def mj_l159 : List (Option mj_I) := [mj_o (.aload_n 0), mj_q (.getfield 72) 9 11 0 429 0, mj_n, mj_n, mj_o (.aload_n 1), mj_q (.invokevirtual 375) 87 2 0 1262 8, mj_n, mj_n, mj_o (.aload_n 0), mj_q (.getfield 76) 9 12 0 430 0, mj_n, mj_n, mj_o (.lconst 1), mj_q (.invokevirtual 93) 86 2 0 417 8, mj_n, mj_n, mj_o (.iconst 0), mj_o (.istore 5), mj_n, mj_o (.iload 5), mj_n, mj_o (.iload 4), mj_n, mj_q (.if_icmp .ge 62) 85 0 0 0 0, mj_n, mj_n, mj_o (.aload_n 0), mj_q (.getfield 38) 9 7 0 425 0, mj_n, mj_n, mj_o (.aload_n 0), mj_q (.getfield 72) 9 11 0 429 0, mj_n, mj_n, mj_o (.lload_n 2), mj_q (.invokevirtual 379) 23 3 0 1263 1, mj_n, mj_n, mj_o (.lstore 6), mj_n, mj_o (.aload_n 0), mj_q (.getfield 38) 9 7 0 425 0, mj_n, mj_n, mj_o (.aload_n 0), mj_q (.getfield 72) 9 11 0 429 0, mj_n, mj_n, mj_o (.lload 6), mj_n, mj_q (.invokevirtual 383) 25 3 0 1264 1, mj_n, mj_n, mj_o (.aload_n 0), mj_q (.getfield 38) 9 7 0 425 0, mj_n, mj_n, mj_o (.aload_n 0), mj_q (.getfield 76) 9 12 0 430 0, mj_n, mj_n, mj_o (.lload 6), mj_n, mj_o (.lconst 0), mj_o .lcmp, mj_q (.ifCond .ne 7) 72 0 0 0 0, mj_n, mj_n, mj_o (.lload_n 2), mj_q (.goto 7) 76 0 0 0 0, mj_n, mj_n, mj_o (.lload_n 2), mj_o (.lload 6), mj_n, mj_o .ldiv, mj_q (.invokevirtual 387) 24 3 0 1268 1, mj_n, mj_n, mj_o (.iinc 5 1), mj_n, mj_n, mj_q (.goto (-63)) 19 0 0 0 0, mj_n, mj_n, mj_o (.aload_n 0), mj_q (.getfield 72) 9 11 0 429 0, mj_n, mj_n, mj_q (.getfield 372) 8 2 0 210 1, mj_n, mj_n, mj_o .ireturn]
def mj_m159 : mj_M := (⟨"PolyRegisters", "tellQuotient", "(LPolyRegisters$Wide;JI)I"⟩, prog_1_method_59_code, 8, some FieldType.int, mj_look mj_l159, [], 1, 1261, 108, 1260, 29)
-- 160: PolyRegisters.bytesIn(I)I
def mj_l160 : List (Option mj_I) := [mj_o (.iconst 0), mj_o (.istore_n 1), mj_o (.bipush 24), mj_n, mj_o (.istore_n 2), mj_o (.iload_n 2), mj_q (.ifCond .lt 22) 28 0 0 0 0, mj_n, mj_n, mj_o (.iload_n 0), mj_o (.iload_n 2), mj_o .ishr, mj_o (.sipush 255), mj_n, mj_n, mj_o .iand, mj_q (.ifCond .eq 6) 22 0 0 0 0, mj_n, mj_n, mj_o (.iinc 1 1), mj_n, mj_n, mj_o (.iinc 2 (-8)), mj_n, mj_n, mj_q (.goto (-20)) 5 0 0 0 0, mj_n, mj_n, mj_o (.iload_n 1), mj_o .ireturn]
def mj_m160 : mj_M := (⟨"PolyRegisters", "bytesIn", "(I)I"⟩, prog_1_method_60_code, 3, some FieldType.int, mj_look mj_l160, [], 0, 1447, 108, 1446, 0)
-- 161: PolyRegisters.isShort(J)Z
def mj_l161 : List (Option mj_I) := [mj_o (.lload_n 0), mj_q (.ldc2_w 390) 17446744073709551617 0 0 719 0, mj_n, mj_n, mj_o .lcmp, mj_q (.ifCond .lt 15) 20 0 0 0 0, mj_n, mj_n, mj_o (.lload_n 0), mj_q (.ldc2_w 392) 999999999999999999 0 0 720 0, mj_n, mj_n, mj_o .lcmp, mj_q (.ifCond .gt 7) 20 0 0 0 0, mj_n, mj_n, mj_o (.iconst 1), mj_q (.goto 4) 21 0 0 0 0, mj_n, mj_n, mj_o (.iconst 0), mj_o .ireturn]
def mj_m161 : mj_M := (⟨"PolyRegisters", "isShort", "(J)Z"⟩, prog_1_method_61_code, 2, some FieldType.boolean, mj_look mj_l161, [], 0, 718, 108, 717, 0)
-- 162: PolyRegisters.degreeOf([J)I
def mj_l162 : List (Option mj_I) := [mj_o (.aload_n 0), mj_o .arraylength, mj_o (.iconst 1), mj_o .isub, mj_o (.istore_n 1), mj_o (.iload_n 1), mj_q (.ifCond .lt 19) 25 0 0 0 0, mj_n, mj_n, mj_o (.aload_n 0), mj_o (.iload_n 1), mj_o .laload, mj_o (.lconst 0), mj_o .lcmp, mj_q (.ifCond .eq 5) 19 0 0 0 0, mj_n, mj_n, mj_o (.iload_n 1), mj_o .ireturn, mj_o (.iinc 1 (-1)), mj_n, mj_n, mj_q (.goto (-17)) 5 0 0 0 0, mj_n, mj_n, mj_o (.iconst (-1)), mj_o .ireturn]
def mj_m162 : mj_M := (⟨"PolyRegisters", "degreeOf", "([J)I"⟩, prog_1_method_62_code, 2, some FieldType.int, mj_look mj_l162, [], 0, 555, 108, 554, 0)
-- 163: PolyRegisters.termsOf([J)I
def mj_l163 : List (Option mj_I) := [mj_o (.iconst 0), mj_o (.istore_n 1), mj_o (.iconst 0), mj_o (.istore_n 2), mj_o (.iload_n 2), mj_o (.aload_n 0), mj_o .arraylength, mj_q (.if_icmp .ge 20) 27 0 0 0 0, mj_n, mj_n, mj_o (.aload_n 0), mj_o (.iload_n 2), mj_o .laload, mj_o (.lconst 0), mj_o .lcmp, mj_q (.ifCond .eq 6) 21 0 0 0 0, mj_n, mj_n, mj_o (.iinc 1 1), mj_n, mj_n, mj_o (.iinc 2 1), mj_n, mj_n, mj_q (.goto (-20)) 4 0 0 0 0, mj_n, mj_n, mj_o (.iload_n 1), mj_o .ireturn]
def mj_m163 : mj_M := (⟨"PolyRegisters", "termsOf", "([J)I"⟩, prog_1_method_63_code, 3, some FieldType.int, mj_look mj_l163, [], 0, 547, 108, 546, 0)
-- 164: PolyRegisters.copyRow([J[J)V
def mj_l164 : List (Option mj_I) := [mj_o (.iconst 0), mj_o (.istore_n 2), mj_o (.iload_n 2), mj_o (.aload_n 1), mj_o .arraylength, mj_q (.if_icmp .ge 25) 30 0 0 0 0, mj_n, mj_n, mj_o (.aload_n 1), mj_o (.iload_n 2), mj_o (.iload_n 2), mj_o (.aload_n 0), mj_o .arraylength, mj_q (.if_icmp .ge 9) 22 0 0 0 0, mj_n, mj_n, mj_o (.aload_n 0), mj_o (.iload_n 2), mj_o .laload, mj_q (.goto 4) 23 0 0 0 0, mj_n, mj_n, mj_o (.lconst 0), mj_o .lastore, mj_o (.iinc 2 1), mj_n, mj_n, mj_q (.goto (-25)) 2 0 0 0 0, mj_n, mj_n, mj_o .return_]
def mj_m164 : mj_M := (⟨"PolyRegisters", "copyRow", "([J[J)V"⟩, prog_1_method_64_code, 3, none, mj_look mj_l164, [], 0, 485, 108, 484, 0)
-- 165: PolyRegisters.clearRow([J)V
def mj_l165 : List (Option mj_I) := [mj_o (.iconst 0), mj_o (.istore_n 1), mj_o (.iload_n 1), mj_o (.aload_n 0), mj_o .arraylength, mj_q (.if_icmp .ge 13) 18 0 0 0 0, mj_n, mj_n, mj_o (.aload_n 0), mj_o (.iload_n 1), mj_o (.lconst 0), mj_o .lastore, mj_o (.iinc 1 1), mj_n, mj_n, mj_q (.goto (-13)) 2 0 0 0 0, mj_n, mj_n, mj_o .return_]
def mj_m165 : mj_M := (⟨"PolyRegisters", "clearRow", "([J)V"⟩, prog_1_method_65_code, 2, none, mj_look mj_l165, [], 0, 653, 108, 652, 0)
-- 166: PolyRegisters.areSameRows([J[J)Z
def mj_l166 : List (Option mj_I) := [mj_o (.iconst 0), mj_o (.istore_n 2), mj_o (.iload_n 2), mj_o (.aload_n 0), mj_o .arraylength, mj_q (.if_icmp .ge 27) 32 0 0 0 0, mj_n, mj_n, mj_o (.iload_n 2), mj_o (.aload_n 1), mj_o .arraylength, mj_q (.if_icmp .ge 21) 32 0 0 0 0, mj_n, mj_n, mj_o (.aload_n 0), mj_o (.iload_n 2), mj_o .laload, mj_o (.aload_n 1), mj_o (.iload_n 2), mj_o .laload, mj_o .lcmp, mj_q (.ifCond .eq 5) 26 0 0 0 0, mj_n, mj_n, mj_o (.iconst 0), mj_o .ireturn, mj_o (.iinc 2 1), mj_n, mj_n, mj_q (.goto (-27)) 2 0 0 0 0, mj_n, mj_n, mj_o (.aload_n 0), mj_o .arraylength, mj_o (.aload_n 1), mj_o .arraylength, mj_q (.if_icmp .ne 7) 43 0 0 0 0, mj_n, mj_n, mj_o (.iconst 1), mj_q (.goto 4) 44 0 0 0 0, mj_n, mj_n, mj_o (.iconst 0), mj_o .ireturn]
def mj_m166 : mj_M := (⟨"PolyRegisters", "areSameRows", "([J[J)Z"⟩, prog_1_method_66_code, 3, some FieldType.boolean, mj_look mj_l166, [], 0, 727, 108, 726, 0)
-- 167: PolyRegisters.sumRows([J[JI[J)Z
def mj_l167 : List (Option mj_I) := [mj_o (.iconst 1), mj_o (.istore 4), mj_n, mj_o (.iconst 0), mj_o (.istore 5), mj_n, mj_o (.iload 5), mj_n, mj_o (.aload_n 3), mj_o .arraylength, mj_q (.if_icmp .ge 61) 71 0 0 0 0, mj_n, mj_n, mj_o (.iload 5), mj_n, mj_o (.aload_n 0), mj_o .arraylength, mj_q (.if_icmp .ge 54) 71 0 0 0 0, mj_n, mj_n, mj_o (.iload 5), mj_n, mj_o (.aload_n 1), mj_o .arraylength, mj_q (.if_icmp .ge 47) 71 0 0 0 0, mj_n, mj_n, mj_o (.aload_n 3), mj_o (.iload 5), mj_n, mj_o (.aload_n 0), mj_o (.iload 5), mj_n, mj_o .laload, mj_o (.iload_n 2), mj_o .i2l, mj_o (.aload_n 1), mj_o (.iload 5), mj_n, mj_o .laload, mj_o .lmul, mj_o .ladd, mj_o .lastore, mj_o (.iload 4), mj_n, mj_q (.ifCond .eq 17) 62 0 0 0 0, mj_n, mj_n, mj_o (.aload_n 3), mj_o (.iload 5), mj_n, mj_o .laload, mj_q (.invokestatic 176) 161 1 0 716 0, mj_n, mj_n, mj_q (.ifCond .eq 7) 62 0 0 0 0, mj_n, mj_n, mj_o (.iconst 1), mj_q (.goto 4) 63 0 0 0 0, mj_n, mj_n, mj_o (.iconst 0), mj_o (.istore 4), mj_n, mj_o (.iinc 5 1), mj_n, mj_n, mj_q (.goto (-62)) 6 0 0 0 0, mj_n, mj_n, mj_o (.iload 4), mj_n, mj_o .ireturn]
def mj_m167 : mj_M := (⟨"PolyRegisters", "sumRows", "([J[JI[J)Z"⟩, prog_1_method_67_code, 6, some FieldType.boolean, mj_look mj_l167, [], 0, 715, 108, 714, 0)
-- 168: PolyRegisters.deriveRow([J[J)Z
def mj_l168 : List (Option mj_I) := [mj_o (.aload_n 1), mj_q (.invokestatic 394) 165 1 0 912 0, mj_n, mj_n, mj_o (.iconst 1), mj_o (.istore_n 2), mj_o (.iload_n 2), mj_o (.aload_n 0), mj_o .arraylength, mj_q (.if_icmp .ge 55) 64 0 0 0 0, mj_n, mj_n, mj_o (.iload_n 2), mj_o (.aload_n 1), mj_o .arraylength, mj_q (.if_icmp .gt 49) 64 0 0 0 0, mj_n, mj_n, mj_o (.aload_n 0), mj_o (.iload_n 2), mj_o .laload, mj_q (.ldc2_w 392) 999999999999999999 0 0 720 0, mj_n, mj_n, mj_o (.iload_n 2), mj_o .i2l, mj_o .ldiv, mj_o .lcmp, mj_q (.ifCond .gt 17) 45 0 0 0 0, mj_n, mj_n, mj_o (.aload_n 0), mj_o (.iload_n 2), mj_o .laload, mj_q (.ldc2_w 392) 999999999999999999 0 0 720 0, mj_n, mj_n, mj_o (.iload_n 2), mj_o .i2l, mj_o .ldiv, mj_o .lneg, mj_o .lcmp, mj_q (.ifCond .ge 5) 47 0 0 0 0, mj_n, mj_n, mj_o (.iconst 0), mj_o .ireturn, mj_o (.aload_n 1), mj_o (.iload_n 2), mj_o (.iconst 1), mj_o .isub, mj_o (.aload_n 0), mj_o (.iload_n 2), mj_o .laload, mj_o (.iload_n 2), mj_o .i2l, mj_o .lmul, mj_o .lastore, mj_o (.iinc 2 1), mj_n, mj_n, mj_q (.goto (-55)) 6 0 0 0 0, mj_n, mj_n, mj_o (.iconst 1), mj_o .ireturn]
def mj_m168 : mj_M := (⟨"PolyRegisters", "deriveRow", "([J[J)Z"⟩, prog_1_method_68_code, 3, some FieldType.boolean, mj_look mj_l168, [], 0, 911, 108, 910, 0)
-- 169: PolyRegisters.contentOf([J)J
def mj_l169 : List (Option mj_I) := [mj_o (.lconst 0), mj_o (.lstore_n 1), mj_o (.iconst 0), mj_o (.istore_n 3), mj_o (.iload_n 3), mj_o (.aload_n 0), mj_o .arraylength, mj_q (.if_icmp .ge 17) 24 0 0 0 0, mj_n, mj_n, mj_o (.lload_n 1), mj_o (.aload_n 0), mj_o (.iload_n 3), mj_o .laload, mj_q (.invokestatic 397) 171 2 0 982 0, mj_n, mj_n, mj_o (.lstore_n 1), mj_o (.iinc 3 1), mj_n, mj_n, mj_q (.goto (-17)) 4 0 0 0 0, mj_n, mj_n, mj_o (.lload_n 1), mj_o .lreturn]
def mj_m169 : mj_M := (⟨"PolyRegisters", "contentOf", "([J)J"⟩, prog_1_method_69_code, 4, some FieldType.long, mj_look mj_l169, [], 0, 981, 108, 980, 0)
-- 170: PolyRegisters.signedContentOf([J)J
def mj_l170 : List (Option mj_I) := [mj_o (.aload_n 0), mj_q (.invokestatic 137) 162 1 0 553 0, mj_n, mj_n, mj_o (.istore_n 1), mj_o (.aload_n 0), mj_q (.invokestatic 271) 169 1 0 989 0, mj_n, mj_n, mj_o (.lstore_n 2), mj_o (.iload_n 1), mj_q (.ifCond .lt 16) 27 0 0 0 0, mj_n, mj_n, mj_o (.aload_n 0), mj_o (.iload_n 1), mj_o .laload, mj_o (.lconst 0), mj_o .lcmp, mj_q (.ifCond .ge 8) 27 0 0 0 0, mj_n, mj_n, mj_o (.lload_n 2), mj_o .lneg, mj_q (.goto 4) 28 0 0 0 0, mj_n, mj_n, mj_o (.lload_n 2), mj_o .lreturn]
def mj_m170 : mj_M := (⟨"PolyRegisters", "signedContentOf", "([J)J"⟩, prog_1_method_70_code, 4, some FieldType.long, mj_look mj_l170, [], 0, 988, 108, 987, 0)
-- 171: PolyRegisters.commonOfLongs(JJ)J
def mj_l171 : List (Option mj_I) := [mj_o (.lload_n 0), mj_o (.lconst 0), mj_o .lcmp, mj_q (.ifCond .ge 8) 11 0 0 0 0, mj_n, mj_n, mj_o (.lload_n 0), mj_o .lneg, mj_q (.goto 4) 12 0 0 0 0, mj_n, mj_n, mj_o (.lload_n 0), mj_o (.lstore 4), mj_n, mj_o (.lload_n 2), mj_o (.lconst 0), mj_o .lcmp, mj_q (.ifCond .ge 8) 25 0 0 0 0, mj_n, mj_n, mj_o (.lload_n 2), mj_o .lneg, mj_q (.goto 4) 26 0 0 0 0, mj_n, mj_n, mj_o (.lload_n 2), mj_o (.lstore 6), mj_n, mj_o (.iconst 0), mj_o (.istore 8), mj_n, mj_o (.iload 8), mj_n, mj_o (.sipush 130), mj_n, mj_n, mj_q (.if_icmp .ge 31) 67 0 0 0 0, mj_n, mj_n, mj_o (.lload 6), mj_n, mj_o (.lconst 0), mj_o .lcmp, mj_q (.ifCond .eq 24) 67 0 0 0 0, mj_n, mj_n, mj_o (.lload 4), mj_n, mj_o (.lload 6), mj_n, mj_o .lrem, mj_o (.lstore 9), mj_n, mj_o (.lload 6), mj_n, mj_o (.lstore 4), mj_n, mj_o (.lload 9), mj_n, mj_o (.lstore 6), mj_n, mj_o (.iinc 8 1), mj_n, mj_n, mj_q (.goto (-33)) 31 0 0 0 0, mj_n, mj_n, mj_o (.lload 4), mj_n, mj_o .lreturn]
def mj_m171 : mj_M := (⟨"PolyRegisters", "commonOfLongs", "(JJ)J"⟩, prog_1_method_71_code, 11, some FieldType.long, mj_look mj_l171, [], 0, 984, 108, 983, 0)
-- 172: PolyRegisters.residueOf(JI)I
def mj_l172 : List (Option mj_I) := [mj_o (.iload_n 2), mj_q (.ifCond .gt 7) 8 0 0 0 0, mj_n, mj_n, mj_o (.lconst 0), mj_q (.goto 7) 12 0 0 0 0, mj_n, mj_n, mj_o (.lload_n 0), mj_o (.iload_n 2), mj_o .i2l, mj_o .lrem, mj_o (.lstore_n 3), mj_o (.lload_n 3), mj_o (.lconst 0), mj_o .lcmp, mj_q (.ifCond .ge 10) 26 0 0 0 0, mj_n, mj_n, mj_o (.lload_n 3), mj_o (.iload_n 2), mj_o .i2l, mj_o .ladd, mj_q (.goto 4) 27 0 0 0 0, mj_n, mj_n, mj_o (.lload_n 3), mj_o .l2i, mj_o .ireturn]
def mj_m172 : mj_M := (⟨"PolyRegisters", "residueOf", "(JI)I"⟩, prog_1_method_72_code, 5, some FieldType.int, mj_look mj_l172, [], 0, 1140, 108, 1139, 0)
-- 173: PolyRegisters.valueBy([JII)I
def mj_l173 : List (Option mj_I) := [mj_o (.iconst 0), mj_o (.istore_n 3), mj_o (.aload_n 0), mj_o .arraylength, mj_o (.iconst 1), mj_o .isub, mj_o (.istore 4), mj_n, mj_o (.iload 4), mj_n, mj_q (.ifCond .lt 29) 39 0 0 0 0, mj_n, mj_n, mj_o (.iload_n 3), mj_o .i2l, mj_o (.iload_n 1), mj_o .i2l, mj_o .lmul, mj_o (.aload_n 0), mj_o (.iload 4), mj_n, mj_o .laload, mj_o (.iload_n 2), mj_q (.invokestatic 172) 172 2 0 1138 0, mj_n, mj_n, mj_o .i2l, mj_o .ladd, mj_o (.iload_n 2), mj_q (.invokestatic 172) 172 2 0 1138 0, mj_n, mj_n, mj_o (.istore_n 3), mj_o (.iinc 4 (-1)), mj_n, mj_n, mj_q (.goto (-28)) 8 0 0 0 0, mj_n, mj_n, mj_o (.iload_n 3), mj_o .ireturn]
def mj_m173 : mj_M := (⟨"PolyRegisters", "valueBy", "([JII)I"⟩, prog_1_method_73_code, 5, some FieldType.int, mj_look mj_l173, [], 0, 1414, 108, 1413, 0)
-- 174: PolyRegistersModel.<init>()V
def mj_l174_0 : List (Option mj_I) := [mj_o (.aload_n 0), mj_q (.invokespecial 3) 0 0 5 1472 0, mj_n, mj_n, mj_o (.aload_n 0), mj_o (.bipush 91), mj_n, mj_q (.newarray .long) 1 0 0 162 0, mj_n, mj_q (.putfield 9) 10 0 3 1483 0, mj_n, mj_n, mj_o (.aload_n 0), mj_o (.sipush 728), mj_n, mj_n, mj_q (.newarray .long) 1 0 0 162 0, mj_n, mj_q (.putfield 13) 10 1 3 1484 0, mj_n, mj_n, mj_o (.aload_n 0), mj_q (.ldc 16) 466830 0 0 1473 0, mj_n, mj_q (.newarray .int) 0 0 0 163 0, mj_n, mj_q (.putfield 17) 10 4 3 1487 0, mj_n, mj_n, mj_o (.aload_n 0), mj_o (.sipush 1404), mj_n, mj_n, mj_q (.newarray .int) 0 0 0 163 0, mj_n, mj_q (.putfield 21) 10 5 3 1488 0, mj_n, mj_n, mj_o (.aload_n 0), mj_o (.sipush 702), mj_n, mj_n, mj_q (.newarray .int) 0 0 0 163 0, mj_n, mj_q (.putfield 24) 10 6 3 1489 0, mj_n, mj_n, mj_o (.aload_n 0), mj_o (.sipush 200), mj_n, mj_n, mj_q (.newarray .int) 0 0 0 163 0, mj_n, mj_q (.putfield 27) 10 8 3 1491 0, mj_n, mj_n, mj_o (.aload_n 0), mj_o (.iconst (-1)), mj_q (.putfield 30) 10 12 0 1495 0, mj_n, mj_n, mj_o (.aload_n 0), mj_o (.sipush 600), mj_n, mj_n, mj_q (.newarray .int) 0 0 0 163 0, mj_n, mj_q (.putfield 34) 10 14 3 1497 0, mj_n, mj_n, mj_o (.aload_n 0), mj_q (.getfield 9) 10 0 0 1483 0, mj_n, mj_n, mj_o (.iconst 0), mj_q (.ldc2_w 37) 18446744073709551614 0 0 1474 0, mj_n, mj_n, mj_o .lastore, mj_o (.aload_n 0), mj_q (.getfield 9) 10 0 0 1483 0, mj_n, mj_n, mj_o (.iconst 2), mj_o (.lconst 1), mj_o .lastore, mj_o (.aload_n 0), mj_q (.getfield 9) 10 0 0 1483 0, mj_n, mj_n, mj_o (.bipush 14), mj_n, mj_q (.ldc2_w 39) 18446744073709551615 0 0 1475 0, mj_n, mj_n, mj_o .lastore, mj_o (.aload_n 0), mj_q (.getfield 9) 10 0 0 1483 0, mj_n, mj_n, mj_o (.bipush 16), mj_n, mj_o (.lconst 1), mj_o .lastore, mj_o (.aload_n 0), mj_q (.getfield 9) 10 0 0 1483 0, mj_n, mj_n, mj_o (.bipush 26), mj_n, mj_o (.lconst 1), mj_o .lastore, mj_o (.aload_n 0), mj_q (.getfield 9) 10 0 0 1483 0, mj_n, mj_n, mj_o (.bipush 27), mj_n, mj_q (.ldc2_w 41) 18446744073709551611 0 0 1476 0, mj_n]
def mj_l174_1 : List (Option mj_I) := [mj_n, mj_o .lastore, mj_o (.aload_n 0), mj_q (.getfield 9) 10 0 0 1483 0, mj_n, mj_n, mj_o (.bipush 28), mj_n, mj_q (.ldc2_w 43) 6 0 0 1477 0, mj_n, mj_n, mj_o .lastore, mj_o (.aload_n 0), mj_o (.sipush 650), mj_n, mj_n, mj_o (.lconst 0), mj_q (.invokevirtual 45) 181 3 0 1478 10, mj_n, mj_n, mj_o (.aload_n 0), mj_o (.sipush 651), mj_n, mj_n, mj_o (.lconst 1), mj_q (.invokevirtual 45) 181 3 0 1478 10, mj_n, mj_n, mj_o .return_]
def mj_l174 : List (Option mj_I) := mj_l174_0 ++ (mj_l174_1)
def mj_m174 : mj_M := (⟨"PolyRegistersModel", "<init>", "()V"⟩, prog_12_method_1_code, 1, none, mj_look mj_l174, [], 2, 1471, 118, 1470, 0)
-- 175: PolyRegistersModel.thrown()I
def mj_l175 : List (Option mj_I) := [mj_o (.aload_n 0), mj_q (.getfield 49) 10 3 0 1486 0, mj_n, mj_n, mj_o .ireturn]
def mj_m175 : mj_M := (⟨"PolyRegistersModel", "thrown", "()I"⟩, prog_12_method_2_code, 1, some FieldType.int, mj_look mj_l175, [], 1, 1535, 118, 1533, 1534)
-- 176: PolyRegistersModel.fails(I)I
def mj_l176 : List (Option mj_I) := [mj_o (.aload_n 0), mj_o (.iload_n 1), mj_q (.putfield 49) 10 3 0 1486 0, mj_n, mj_n, mj_o (.iconst 0), mj_o .ireturn]
def mj_m176 : mj_M := (⟨"PolyRegistersModel", "fails", "(I)I"⟩, prog_12_method_3_code, 2, some FieldType.int, mj_look mj_l176, [], 1, 1557, 118, 1556, 32)
-- 177: PolyRegistersModel.in(JJJ)Z
def mj_l177 : List (Option mj_I) := [mj_o (.lload_n 0), mj_o (.lload_n 2), mj_o .lcmp, mj_q (.ifCond .lt 14) 17 0 0 0 0, mj_n, mj_n, mj_o (.lload_n 0), mj_o (.lload 4), mj_n, mj_o .lcmp, mj_q (.ifCond .gt 7) 17 0 0 0 0, mj_n, mj_n, mj_o (.iconst 1), mj_q (.goto 4) 18 0 0 0 0, mj_n, mj_n, mj_o (.iconst 0), mj_o .ireturn]
def mj_m177 : mj_M := (⟨"PolyRegistersModel", "in", "(JJJ)Z"⟩, prog_12_method_4_code, 6, some FieldType.boolean, mj_look mj_l177, [], 0, 1553, 118, 1552, 0)
-- 178: PolyRegistersModel.sign(I)I
def mj_l178 : List (Option mj_I) := [mj_o (.aload_n 0), mj_q (.getfield 17) 10 4 0 1487 0, mj_n, mj_n, mj_o (.iload_n 1), mj_o (.sipush 702), mj_n, mj_n, mj_o .imul, mj_o .iaload, mj_o .ireturn]
def mj_m178 : mj_M := (⟨"PolyRegistersModel", "sign", "(I)I"⟩, prog_12_method_5_code, 2, some FieldType.int, mj_look mj_l178, [], 1, 1576, 118, 1575, 36)
-- 179: PolyRegistersModel.length(I)I
def mj_l179 : List (Option mj_I) := [mj_o (.aload_n 0), mj_q (.getfield 17) 10 4 0 1487 0, mj_n, mj_n, mj_o (.iload_n 1), mj_o (.sipush 702), mj_n, mj_n, mj_o .imul, mj_o (.iconst 1), mj_o .iadd, mj_o .iaload, mj_o .ireturn]
def mj_m179 : mj_M := (⟨"PolyRegistersModel", "length", "(I)I"⟩, prog_12_method_6_code, 2, some FieldType.int, mj_look mj_l179, [], 1, 1584, 118, 1583, 38)
-- 180: PolyRegistersModel.limb(II)I
def mj_l180 : List (Option mj_I) := [mj_o (.iload_n 2), mj_o (.aload_n 0), mj_o (.iload_n 1), mj_q (.invokevirtual 52) 179 2 0 1581 10, mj_n, mj_n, mj_q (.if_icmp .ge 20) 26 0 0 0 0, mj_n, mj_n, mj_o (.aload_n 0), mj_q (.getfield 17) 10 4 0 1487 0, mj_n, mj_n, mj_o (.iload_n 1), mj_o (.sipush 702), mj_n, mj_n, mj_o .imul, mj_o (.iconst 2), mj_o .iadd, mj_o (.iload_n 2), mj_o .iadd, mj_o .iaload, mj_q (.goto 4) 27 0 0 0 0, mj_n, mj_n, mj_o (.iconst 0), mj_o .ireturn]
def mj_m180 : mj_M := (⟨"PolyRegistersModel", "limb", "(II)I"⟩, prog_12_method_7_code, 3, some FieldType.int, mj_look mj_l180, [], 1, 1605, 118, 1604, 42)
-- 181: PolyRegistersModel.sets(IJ)V
def mj_l181 : List (Option mj_I) := [mj_o (.iload_n 1), mj_o (.sipush 702), mj_n, mj_n, mj_o .imul, mj_o (.istore 4), mj_n, mj_o (.aload_n 0), mj_q (.getfield 17) 10 4 0 1487 0, mj_n, mj_n, mj_o (.iload 4), mj_n, mj_o (.lload_n 2), mj_o (.lconst 0), mj_o .lcmp, mj_q (.ifCond .le 7) 23 0 0 0 0, mj_n, mj_n, mj_o (.iconst 1), mj_q (.goto 14) 34 0 0 0 0, mj_n, mj_n, mj_o (.lload_n 2), mj_o (.lconst 0), mj_o .lcmp, mj_q (.ifCond .ge 7) 33 0 0 0 0, mj_n, mj_n, mj_o (.iconst (-1)), mj_q (.goto 4) 34 0 0 0 0, mj_n, mj_n, mj_o (.iconst 0), mj_o .iastore, mj_o (.iconst 0), mj_o (.istore 5), mj_n, mj_o (.lload_n 2), mj_o (.lconst 0), mj_o .lcmp, mj_q (.ifCond .le 8) 49 0 0 0 0, mj_n, mj_n, mj_o (.lload_n 2), mj_o .lneg, mj_q (.goto 4) 50 0 0 0 0, mj_n, mj_n, mj_o (.lload_n 2), mj_o (.lstore 6), mj_n, mj_o (.lload 6), mj_n, mj_o (.lconst 0), mj_o .lcmp, mj_q (.ifCond .eq 37) 93 0 0 0 0, mj_n, mj_n, mj_o (.aload_n 0), mj_q (.getfield 17) 10 4 0 1487 0, mj_n, mj_n, mj_o (.iload 4), mj_n, mj_o (.iconst 2), mj_o .iadd, mj_o (.iload 5), mj_n, mj_o .iadd, mj_o (.lload 6), mj_n, mj_q (.ldc2_w 56) 1000000000 0 0 1482 0, mj_n, mj_n, mj_o .lrem, mj_o .lneg, mj_o .l2i, mj_o .iastore, mj_o (.iinc 5 1), mj_n, mj_n, mj_o (.lload 6), mj_n, mj_q (.ldc2_w 56) 1000000000 0 0 1482 0, mj_n, mj_n, mj_o .ldiv, mj_o (.lstore 6), mj_n, mj_q (.goto (-38)) 52 0 0 0 0, mj_n, mj_n, mj_o (.aload_n 0), mj_q (.getfield 17) 10 4 0 1487 0, mj_n, mj_n, mj_o (.iload 4), mj_n, mj_o (.iconst 1), mj_o .iadd, mj_o (.iload 5), mj_n, mj_o .iastore, mj_o .return_]
def mj_m181 : mj_M := (⟨"PolyRegistersModel", "sets", "(IJ)V"⟩, prog_12_method_8_code, 8, none, mj_look mj_l181, [], 1, 1481, 118, 1480, 30)
-- 182: PolyRegistersModel.copies(II)V
def mj_l182 : List (Option mj_I) := [mj_o (.aload_n 0), mj_q (.getfield 17) 10 4 0 1487 0, mj_n, mj_n, mj_o (.iload_n 2), mj_o (.sipush 702), mj_n, mj_n, mj_o .imul, mj_o (.aload_n 0), mj_q (.getfield 17) 10 4 0 1487 0, mj_n, mj_n, mj_o (.iload_n 1), mj_o (.sipush 702), mj_n, mj_n, mj_o .imul, mj_o (.aload_n 0), mj_o (.iload_n 2), mj_q (.invokevirtual 52) 179 2 0 1581 10, mj_n, mj_n, mj_o (.iconst 2), mj_o .iadd, mj_q (.invokestatic 58) 0 0 4 1585 0, mj_n, mj_n, mj_o .return_]
def mj_m182 : mj_M := (⟨"PolyRegistersModel", "copies", "(II)V"⟩, prog_12_method_9_code, 3, none, mj_look mj_l182, [], 1, 1580, 118, 1579, 37)
-- 183: PolyRegistersModel.trims(II)V
def mj_l183 : List (Option mj_I) := [mj_o (.iload_n 2), mj_o (.istore_n 3), mj_o (.iload_n 3), mj_q (.ifCond .le 26) 29 0 0 0 0, mj_n, mj_n, mj_o (.aload_n 0), mj_q (.getfield 17) 10 4 0 1487 0, mj_n, mj_n, mj_o (.iload_n 1), mj_o (.sipush 702), mj_n, mj_n, mj_o .imul, mj_o (.iconst 1), mj_o .iadd, mj_o (.iload_n 3), mj_o .iadd, mj_o .iaload, mj_q (.ifCond .ne 9) 29 0 0 0 0, mj_n, mj_n, mj_o (.iinc 3 (-1)), mj_n, mj_n, mj_q (.goto (-24)) 2 0 0 0 0, mj_n, mj_n, mj_o (.aload_n 0), mj_q (.getfield 17) 10 4 0 1487 0, mj_n, mj_n, mj_o (.iload_n 1), mj_o (.sipush 702), mj_n, mj_n, mj_o .imul, mj_o (.iconst 1), mj_o .iadd, mj_o (.iload_n 3), mj_o .iastore, mj_o (.iload_n 3), mj_q (.ifCond .ne 14) 57 0 0 0 0, mj_n, mj_n, mj_o (.aload_n 0), mj_q (.getfield 17) 10 4 0 1487 0, mj_n, mj_n, mj_o (.iload_n 1), mj_o (.sipush 702), mj_n, mj_n, mj_o .imul, mj_o (.iconst 0), mj_o .iastore, mj_o .return_]
def mj_m183 : mj_M := (⟨"PolyRegistersModel", "trims", "(II)V"⟩, prog_12_method_10_code, 4, none, mj_look mj_l183, [], 1, 1597, 118, 1596, 40)
-- 184: PolyRegistersModel.comparesSizes(II)I
def mj_l184 : List (Option mj_I) := [mj_o (.aload_n 0), mj_o (.iload_n 1), mj_q (.invokevirtual 52) 179 2 0 1581 10, mj_n, mj_n, mj_o (.aload_n 0), mj_o (.iload_n 2), mj_q (.invokevirtual 52) 179 2 0 1581 10, mj_n, mj_n, mj_q (.if_icmp .eq 22) 32 0 0 0 0, mj_n, mj_n, mj_o (.aload_n 0), mj_o (.iload_n 1), mj_q (.invokevirtual 52) 179 2 0 1581 10, mj_n, mj_n, mj_o (.aload_n 0), mj_o (.iload_n 2), mj_q (.invokevirtual 52) 179 2 0 1581 10, mj_n, mj_n, mj_q (.if_icmp .ge 7) 30 0 0 0 0, mj_n, mj_n, mj_o (.iconst (-1)), mj_q (.goto 4) 31 0 0 0 0, mj_n, mj_n, mj_o (.iconst 1), mj_o .ireturn, mj_o (.aload_n 0), mj_o (.iload_n 1), mj_q (.invokevirtual 52) 179 2 0 1581 10, mj_n, mj_n, mj_o (.iconst 1), mj_o .isub, mj_o (.istore_n 3), mj_o (.iload_n 3), mj_q (.ifCond .lt 45) 86 0 0 0 0, mj_n, mj_n, mj_o (.aload_n 0), mj_o (.iload_n 1), mj_o (.iload_n 3), mj_q (.invokevirtual 64) 180 3 0 1602 10, mj_n, mj_n, mj_o (.aload_n 0), mj_o (.iload_n 2), mj_o (.iload_n 3), mj_q (.invokevirtual 64) 180 3 0 1602 10, mj_n, mj_n, mj_q (.if_icmp .eq 24) 80 0 0 0 0, mj_n, mj_n, mj_o (.aload_n 0), mj_o (.iload_n 1), mj_o (.iload_n 3), mj_q (.invokevirtual 64) 180 3 0 1602 10, mj_n, mj_n, mj_o (.aload_n 0), mj_o (.iload_n 2), mj_o (.iload_n 3), mj_q (.invokevirtual 64) 180 3 0 1602 10, mj_n, mj_n, mj_q (.if_icmp .ge 7) 78 0 0 0 0, mj_n, mj_n, mj_o (.iconst (-1)), mj_q (.goto 4) 79 0 0 0 0, mj_n, mj_n, mj_o (.iconst 1), mj_o .ireturn, mj_o (.iinc 3 (-1)), mj_n, mj_n, mj_q (.goto (-43)) 40 0 0 0 0, mj_n, mj_n, mj_o (.iconst 0), mj_o .ireturn]
def mj_m184 : mj_M := (⟨"PolyRegistersModel", "comparesSizes", "(II)I"⟩, prog_12_method_11_code, 4, some FieldType.int, mj_look mj_l184, [], 1, 1601, 118, 1600, 41)
-- 185: PolyRegistersModel.compares(II)I
def mj_l185 : List (Option mj_I) := [mj_o (.aload_n 0), mj_o (.iload_n 1), mj_q (.invokevirtual 68) 178 2 0 1573 10, mj_n, mj_n, mj_o (.aload_n 0), mj_o (.iload_n 2), mj_q (.invokevirtual 68) 178 2 0 1573 10, mj_n, mj_n, mj_q (.if_icmp .eq 22) 32 0 0 0 0, mj_n, mj_n, mj_o (.aload_n 0), mj_o (.iload_n 1), mj_q (.invokevirtual 68) 178 2 0 1573 10, mj_n, mj_n, mj_o (.aload_n 0), mj_o (.iload_n 2), mj_q (.invokevirtual 68) 178 2 0 1573 10, mj_n, mj_n, mj_q (.if_icmp .ge 7) 30 0 0 0 0, mj_n, mj_n, mj_o (.iconst (-1)), mj_q (.goto 4) 31 0 0 0 0, mj_n, mj_n, mj_o (.iconst 1), mj_o .ireturn, mj_o (.aload_n 0), mj_o (.iload_n 1), mj_q (.invokevirtual 68) 178 2 0 1573 10, mj_n, mj_n, mj_o (.aload_n 0), mj_o (.iload_n 1), mj_o (.iload_n 2), mj_q (.invokevirtual 71) 184 3 0 1598 10, mj_n, mj_n, mj_o .imul, mj_o .ireturn]
def mj_m185 : mj_M := (⟨"PolyRegistersModel", "compares", "(II)I"⟩, prog_12_method_12_code, 3, some FieldType.int, mj_look mj_l185, [], 1, 1939, 118, 1938, 93)
-- 186: PolyRegistersModel.addsSizes(IIII)V
def mj_l186_0 : List (Option mj_I) := [mj_o (.aload_n 0), mj_o (.iload_n 2), mj_q (.invokevirtual 52) 179 2 0 1581 10, mj_n, mj_n, mj_o (.aload_n 0), mj_o (.iload_n 3), mj_q (.invokevirtual 52) 179 2 0 1581 10, mj_n, mj_n, mj_q (.invokestatic 74) 0 0 2 1592 0, mj_n, mj_n, mj_o (.istore 5), mj_n, mj_o (.iconst 0), mj_o (.istore 6), mj_n, mj_o (.aload_n 0), mj_o (.iload_n 2), mj_q (.invokevirtual 52) 179 2 0 1581 10, mj_n, mj_n, mj_o (.istore 7), mj_n, mj_o (.aload_n 0), mj_o (.iload_n 3), mj_q (.invokevirtual 52) 179 2 0 1581 10, mj_n, mj_n, mj_o (.istore 8), mj_n, mj_o (.iconst 0), mj_o (.istore 9), mj_n, mj_o (.iload 9), mj_n, mj_o (.iload 5), mj_n, mj_q (.if_icmp .ge 104) 143 0 0 0 0, mj_n, mj_n, mj_o (.iload 9), mj_n, mj_o (.iload 7), mj_n, mj_q (.if_icmp .ge 21) 67 0 0 0 0, mj_n, mj_n, mj_o (.aload_n 0), mj_q (.getfield 17) 10 4 0 1487 0, mj_n, mj_n, mj_o (.iload_n 2), mj_o (.sipush 702), mj_n, mj_n, mj_o .imul, mj_o (.iconst 2), mj_o .iadd, mj_o (.iload 9), mj_n, mj_o .iadd, mj_o .iaload, mj_q (.goto 4) 68 0 0 0 0, mj_n, mj_n, mj_o (.iconst 0), mj_o (.iload 9), mj_n, mj_o (.iload 8), mj_n, mj_q (.if_icmp .ge 21) 93 0 0 0 0, mj_n, mj_n, mj_o (.aload_n 0), mj_q (.getfield 17) 10 4 0 1487 0, mj_n, mj_n, mj_o (.iload_n 3), mj_o (.sipush 702), mj_n, mj_n, mj_o .imul, mj_o (.iconst 2), mj_o .iadd, mj_o (.iload 9), mj_n, mj_o .iadd, mj_o .iaload, mj_q (.goto 4) 94 0 0 0 0, mj_n, mj_n, mj_o (.iconst 0), mj_o .iadd, mj_o (.iload 6), mj_n, mj_o .iadd, mj_o (.istore 10), mj_n, mj_o (.iload 10), mj_n, mj_q (.ldc 79) 1000000000 0 0 1593 0, mj_n, mj_q (.if_icmp .lt 7) 111 0 0 0 0, mj_n, mj_n, mj_o (.iconst 1), mj_q (.goto 4) 112 0 0 0 0, mj_n, mj_n, mj_o (.iconst 0), mj_o (.istore 6), mj_n, mj_o (.aload_n 0), mj_q (.getfield 17) 10 4 0 1487 0, mj_n, mj_n, mj_o (.iload_n 1), mj_o (.sipush 702)]
def mj_l186_1 : List (Option mj_I) := [mj_n, mj_n, mj_o .imul, mj_o (.iconst 2), mj_o .iadd, mj_o (.iload 9), mj_n, mj_o .iadd, mj_o (.iload 10), mj_n, mj_o (.iload 6), mj_n, mj_q (.ldc 79) 1000000000 0 0 1593 0, mj_n, mj_o .imul, mj_o .isub, mj_o .iastore, mj_o (.iinc 9 1), mj_n, mj_n, mj_q (.goto (-105)) 35 0 0 0 0, mj_n, mj_n, mj_o (.aload_n 0), mj_q (.getfield 17) 10 4 0 1487 0, mj_n, mj_n, mj_o (.iload_n 1), mj_o (.sipush 702), mj_n, mj_n, mj_o .imul, mj_o (.iconst 2), mj_o .iadd, mj_o (.iload 5), mj_n, mj_o .iadd, mj_o (.iload 6), mj_n, mj_o .iastore, mj_o (.aload_n 0), mj_q (.getfield 17) 10 4 0 1487 0, mj_n, mj_n, mj_o (.iload_n 1), mj_o (.sipush 702), mj_n, mj_n, mj_o .imul, mj_o (.iload 4), mj_n, mj_o .iastore, mj_o (.aload_n 0), mj_o (.iload_n 1), mj_o (.iload 5), mj_n, mj_o (.iload 6), mj_n, mj_o .iadd, mj_q (.invokevirtual 80) 183 3 0 1594 10, mj_n, mj_n, mj_o .return_]
def mj_l186 : List (Option mj_I) := mj_l186_0 ++ (mj_l186_1)
def mj_m186 : mj_M := (⟨"PolyRegistersModel", "addsSizes", "(IIII)V"⟩, prog_12_method_13_code, 11, none, mj_look mj_l186, [], 1, 1591, 118, 1590, 39)
-- 187: PolyRegistersModel.takesSizes(IIII)V
def mj_l187_0 : List (Option mj_I) := [mj_o (.aload_n 0), mj_o (.iload_n 2), mj_q (.invokevirtual 52) 179 2 0 1581 10, mj_n, mj_n, mj_o (.istore 5), mj_n, mj_o (.aload_n 0), mj_o (.iload_n 3), mj_q (.invokevirtual 52) 179 2 0 1581 10, mj_n, mj_n, mj_o (.istore 6), mj_n, mj_o (.iconst 0), mj_o (.istore 7), mj_n, mj_o (.iconst 0), mj_o (.istore 8), mj_n, mj_o (.iload 8), mj_n, mj_o (.iload 5), mj_n, mj_q (.if_icmp .ge 91) 115 0 0 0 0, mj_n, mj_n, mj_o (.aload_n 0), mj_q (.getfield 17) 10 4 0 1487 0, mj_n, mj_n, mj_o (.iload_n 2), mj_o (.sipush 702), mj_n, mj_n, mj_o .imul, mj_o (.iconst 2), mj_o .iadd, mj_o (.iload 8), mj_n, mj_o .iadd, mj_o .iaload, mj_o (.iload 8), mj_n, mj_o (.iload 6), mj_n, mj_q (.if_icmp .ge 21) 67 0 0 0 0, mj_n, mj_n, mj_o (.aload_n 0), mj_q (.getfield 17) 10 4 0 1487 0, mj_n, mj_n, mj_o (.iload_n 3), mj_o (.sipush 702), mj_n, mj_n, mj_o .imul, mj_o (.iconst 2), mj_o .iadd, mj_o (.iload 8), mj_n, mj_o .iadd, mj_o .iaload, mj_q (.goto 4) 68 0 0 0 0, mj_n, mj_n, mj_o (.iconst 0), mj_o .isub, mj_o (.iload 7), mj_n, mj_o .isub, mj_o (.istore 9), mj_n, mj_o (.iload 9), mj_n, mj_q (.ifCond .ge 7) 83 0 0 0 0, mj_n, mj_n, mj_o (.iconst 1), mj_q (.goto 4) 84 0 0 0 0, mj_n, mj_n, mj_o (.iconst 0), mj_o (.istore 7), mj_n, mj_o (.aload_n 0), mj_q (.getfield 17) 10 4 0 1487 0, mj_n, mj_n, mj_o (.iload_n 1), mj_o (.sipush 702), mj_n, mj_n, mj_o .imul, mj_o (.iconst 2), mj_o .iadd, mj_o (.iload 8), mj_n, mj_o .iadd, mj_o (.iload 9), mj_n, mj_o (.iload 7), mj_n, mj_q (.ldc 79) 1000000000 0 0 1593 0, mj_n, mj_o .imul, mj_o .iadd, mj_o .iastore, mj_o (.iinc 8 1), mj_n, mj_n, mj_q (.goto (-92)) 20 0 0 0 0, mj_n, mj_n, mj_o (.aload_n 0), mj_q (.getfield 17) 10 4 0 1487 0, mj_n, mj_n, mj_o (.iload_n 1)]
def mj_l187_1 : List (Option mj_I) := [mj_o (.sipush 702), mj_n, mj_n, mj_o .imul, mj_o (.iload 4), mj_n, mj_o .iastore, mj_o (.aload_n 0), mj_o (.iload_n 1), mj_o (.iload 5), mj_n, mj_q (.invokevirtual 80) 183 3 0 1594 10, mj_n, mj_n, mj_o .return_]
def mj_l187 : List (Option mj_I) := mj_l187_0 ++ (mj_l187_1)
def mj_m187 : mj_M := (⟨"PolyRegistersModel", "takesSizes", "(IIII)V"⟩, prog_12_method_14_code, 10, none, mj_look mj_l187, [], 1, 1609, 118, 1608, 43)
-- 188: PolyRegistersModel.adds(IIII)V
def mj_l188 : List (Option mj_I) := [mj_o (.iload 4), mj_n, mj_o (.aload_n 0), mj_o (.iload_n 3), mj_q (.invokevirtual 68) 178 2 0 1573 10, mj_n, mj_n, mj_o .imul, mj_o (.istore 5), mj_n, mj_o (.aload_n 0), mj_o (.iload_n 2), mj_q (.invokevirtual 68) 178 2 0 1573 10, mj_n, mj_n, mj_o (.istore 6), mj_n, mj_o (.iload 5), mj_n, mj_q (.ifCond .ne 12) 31 0 0 0 0, mj_n, mj_n, mj_o (.aload_n 0), mj_o (.iload_n 1), mj_o (.iload_n 2), mj_q (.invokevirtual 84) 182 3 0 1577 10, mj_n, mj_n, mj_q (.goto 78) 106 0 0 0 0, mj_n, mj_n, mj_o (.iload 6), mj_n, mj_q (.ifCond .ne 24) 57 0 0 0 0, mj_n, mj_n, mj_o (.aload_n 0), mj_o (.iload_n 1), mj_o (.iload_n 3), mj_q (.invokevirtual 84) 182 3 0 1577 10, mj_n, mj_n, mj_o (.aload_n 0), mj_q (.getfield 17) 10 4 0 1487 0, mj_n, mj_n, mj_o (.iload_n 1), mj_o (.sipush 702), mj_n, mj_n, mj_o .imul, mj_o (.iload 5), mj_n, mj_o .iastore, mj_q (.goto 52) 106 0 0 0 0, mj_n, mj_n, mj_o (.iload 6), mj_n, mj_o (.iload 5), mj_n, mj_q (.if_icmp .ne 15) 76 0 0 0 0, mj_n, mj_n, mj_o (.aload_n 0), mj_o (.iload_n 1), mj_o (.iload_n 2), mj_o (.iload_n 3), mj_o (.iload 6), mj_n, mj_q (.invokevirtual 87) 186 5 0 1588 10, mj_n, mj_n, mj_q (.goto 33) 106 0 0 0 0, mj_n, mj_n, mj_o (.aload_n 0), mj_o (.iload_n 2), mj_o (.iload_n 3), mj_q (.invokevirtual 71) 184 3 0 1598 10, mj_n, mj_n, mj_q (.ifCond .lt 15) 97 0 0 0 0, mj_n, mj_n, mj_o (.aload_n 0), mj_o (.iload_n 1), mj_o (.iload_n 2), mj_o (.iload_n 3), mj_o (.iload 6), mj_n, mj_q (.invokevirtual 91) 187 5 0 1606 10, mj_n, mj_n, mj_q (.goto 12) 106 0 0 0 0, mj_n, mj_n, mj_o (.aload_n 0), mj_o (.iload_n 1), mj_o (.iload_n 3), mj_o (.iload_n 2), mj_o (.iload 5), mj_n, mj_q (.invokevirtual 91) 187 5 0 1606 10, mj_n, mj_n, mj_o .return_]
def mj_m188 : mj_M := (⟨"PolyRegistersModel", "adds", "(IIII)V"⟩, prog_12_method_15_code, 7, none, mj_look mj_l188, [], 1, 1572, 118, 1571, 35)
-- 189: PolyRegistersModel.multiplies(III)V
def mj_l189_0 : List (Option mj_I) := [mj_o (.aload_n 0), mj_o (.iload_n 2), mj_q (.invokevirtual 52) 179 2 0 1581 10, mj_n, mj_n, mj_o (.istore 4), mj_n, mj_o (.aload_n 0), mj_o (.iload_n 3), mj_q (.invokevirtual 52) 179 2 0 1581 10, mj_n, mj_n, mj_o (.istore 5), mj_n, mj_o (.iconst 0), mj_o (.istore 6), mj_n, mj_o (.iload 6), mj_n, mj_o (.iload 4), mj_n, mj_o (.iload 5), mj_n, mj_o .iadd, mj_q (.if_icmp .gt 17) 41 0 0 0 0, mj_n, mj_n, mj_o (.aload_n 0), mj_q (.getfield 21) 10 5 0 1488 0, mj_n, mj_n, mj_o (.iload 6), mj_n, mj_o (.iconst 0), mj_o .iastore, mj_o (.iinc 6 1), mj_n, mj_n, mj_q (.goto (-21)) 17 0 0 0 0, mj_n, mj_n, mj_o (.iconst 0), mj_o (.istore 6), mj_n, mj_o (.iload 6), mj_n, mj_o (.iload 4), mj_n, mj_q (.if_icmp .ge 120) 168 0 0 0 0, mj_n, mj_n, mj_o (.lconst 0), mj_o (.lstore 7), mj_n, mj_o (.aload_n 0), mj_q (.getfield 17) 10 4 0 1487 0, mj_n, mj_n, mj_o (.iload_n 2), mj_o (.sipush 702), mj_n, mj_n, mj_o .imul, mj_o (.iconst 2), mj_o .iadd, mj_o (.iload 6), mj_n, mj_o .iadd, mj_o .iaload, mj_o .i2l, mj_o (.lstore 9), mj_n, mj_o (.iconst 0), mj_o (.istore 11), mj_n, mj_o (.iload 11), mj_n, mj_o (.iload 5), mj_n, mj_q (.if_icmp .ge 70) 149 0 0 0 0, mj_n, mj_n, mj_o (.aload_n 0), mj_q (.getfield 21) 10 5 0 1488 0, mj_n, mj_n, mj_o (.iload 6), mj_n, mj_o (.iload 11), mj_n, mj_o .iadd, mj_o .iaload, mj_o .i2l, mj_o (.lload 9), mj_n, mj_o (.aload_n 0), mj_q (.getfield 17) 10 4 0 1487 0, mj_n, mj_n, mj_o (.iload_n 3), mj_o (.sipush 702), mj_n, mj_n, mj_o .imul, mj_o (.iconst 2), mj_o .iadd, mj_o (.iload 11), mj_n, mj_o .iadd, mj_o .iaload, mj_o .i2l, mj_o .lmul, mj_o .ladd, mj_o (.lload 7), mj_n, mj_o .ladd, mj_o (.lstore 12), mj_n, mj_o (.aload_n 0), mj_q (.getfield 21) 10 5 0 1488 0]
def mj_l189_1 : List (Option mj_I) := [mj_n, mj_n, mj_o (.iload 6), mj_n, mj_o (.iload 11), mj_n, mj_o .iadd, mj_o (.lload 12), mj_n, mj_q (.ldc2_w 56) 1000000000 0 0 1482 0, mj_n, mj_n, mj_o .lrem, mj_o .l2i, mj_o .iastore, mj_o (.lload 12), mj_n, mj_q (.ldc2_w 56) 1000000000 0 0 1482 0, mj_n, mj_n, mj_o .ldiv, mj_o (.lstore 7), mj_n, mj_o (.iinc 11 1), mj_n, mj_n, mj_q (.goto (-71)) 75 0 0 0 0, mj_n, mj_n, mj_o (.aload_n 0), mj_q (.getfield 21) 10 5 0 1488 0, mj_n, mj_n, mj_o (.iload 6), mj_n, mj_o (.iload 5), mj_n, mj_o .iadd, mj_o (.lload 7), mj_n, mj_o .l2i, mj_o .iastore, mj_o (.iinc 6 1), mj_n, mj_n, mj_q (.goto (-121)) 44 0 0 0 0, mj_n, mj_n, mj_o (.aload_n 0), mj_o (.iload_n 2), mj_q (.invokevirtual 68) 178 2 0 1573 10, mj_n, mj_n, mj_o (.aload_n 0), mj_o (.iload_n 3), mj_q (.invokevirtual 68) 178 2 0 1573 10, mj_n, mj_n, mj_o .imul, mj_o (.istore 6), mj_n, mj_o (.iconst 0), mj_o (.istore 7), mj_n, mj_o (.iload 7), mj_n, mj_o (.iload 4), mj_n, mj_o (.iload 5), mj_n, mj_o .iadd, mj_q (.if_icmp .ge 31) 222 0 0 0 0, mj_n, mj_n, mj_o (.aload_n 0), mj_q (.getfield 17) 10 4 0 1487 0, mj_n, mj_n, mj_o (.iload_n 1), mj_o (.sipush 702), mj_n, mj_n, mj_o .imul, mj_o (.iconst 2), mj_o .iadd, mj_o (.iload 7), mj_n, mj_o .iadd, mj_o (.aload_n 0), mj_q (.getfield 21) 10 5 0 1488 0, mj_n, mj_n, mj_o (.iload 7), mj_n, mj_o .iaload, mj_o .iastore, mj_o (.iinc 7 1), mj_n, mj_n, mj_q (.goto (-35)) 184 0 0 0 0, mj_n, mj_n, mj_o (.aload_n 0), mj_q (.getfield 17) 10 4 0 1487 0, mj_n, mj_n, mj_o (.iload_n 1), mj_o (.sipush 702), mj_n, mj_n, mj_o .imul, mj_o (.iload 6), mj_n, mj_o .iastore, mj_o (.aload_n 0), mj_o (.iload_n 1), mj_o (.iload 4), mj_n, mj_o (.iload 5), mj_n]
def mj_l189_2 : List (Option mj_I) := [mj_o .iadd, mj_q (.invokevirtual 80) 183 3 0 1594 10, mj_n, mj_n, mj_o .return_]
def mj_l189 : List (Option mj_I) := mj_l189_0 ++ (mj_l189_1 ++ (mj_l189_2))
def mj_m189 : mj_M := (⟨"PolyRegistersModel", "multiplies", "(III)V"⟩, prog_12_method_16_code, 14, none, mj_look mj_l189, [], 1, 1657, 118, 1656, 53)
-- 190: PolyRegistersModel.scales([III)V
def mj_l190 : List (Option mj_I) := [mj_o (.lconst 0), mj_o (.lstore_n 3), mj_o (.iconst 0), mj_o (.istore 5), mj_n, mj_o (.iload 5), mj_n, mj_o (.iload_n 1), mj_q (.if_icmp .gt 49) 57 0 0 0 0, mj_n, mj_n, mj_o (.iload 5), mj_n, mj_o (.iload_n 1), mj_q (.if_icmp .ge 14) 28 0 0 0 0, mj_n, mj_n, mj_o (.aload_n 0), mj_o (.iload 5), mj_n, mj_o .iaload, mj_o .i2l, mj_o (.iload_n 2), mj_o .i2l, mj_o .lmul, mj_q (.goto 4) 29 0 0 0 0, mj_n, mj_n, mj_o (.lconst 0), mj_o (.lload_n 3), mj_o .ladd, mj_o (.lstore 6), mj_n, mj_o (.aload_n 0), mj_o (.iload 5), mj_n, mj_o (.lload 6), mj_n, mj_q (.ldc2_w 56) 1000000000 0 0 1482 0, mj_n, mj_n, mj_o .lrem, mj_o .l2i, mj_o .iastore, mj_o (.lload 6), mj_n, mj_q (.ldc2_w 56) 1000000000 0 0 1482 0, mj_n, mj_n, mj_o .ldiv, mj_o (.lstore_n 3), mj_o (.iinc 5 1), mj_n, mj_n, mj_q (.goto (-49)) 5 0 0 0 0, mj_n, mj_n, mj_o .return_]
def mj_m190 : mj_M := (⟨"PolyRegistersModel", "scales", "([III)V"⟩, prog_12_method_17_code, 8, none, mj_look mj_l190, [], 0, 1717, 118, 1716, 0)
-- 191: PolyRegistersModel.cuts(IIII)V
def mj_l191_0 : List (Option mj_I) := [mj_o (.aload_n 0), mj_o (.iload_n 3), mj_o (.iload 4), mj_n, mj_q (.invokevirtual 71) 184 3 0 1598 10, mj_n, mj_n, mj_q (.ifCond .ge 16) 23 0 0 0 0, mj_n, mj_n, mj_o (.aload_n 0), mj_o (.iload_n 1), mj_o (.lconst 0), mj_q (.invokevirtual 45) 181 3 0 1478 10, mj_n, mj_n, mj_o (.aload_n 0), mj_o (.iload_n 2), mj_o (.iload_n 3), mj_q (.invokevirtual 84) 182 3 0 1577 10, mj_n, mj_n, mj_o .return_, mj_o (.aload_n 0), mj_o (.iload 4), mj_n, mj_q (.invokevirtual 52) 179 2 0 1581 10, mj_n, mj_n, mj_o (.istore 5), mj_n, mj_o (.aload_n 0), mj_o (.iload_n 3), mj_q (.invokevirtual 52) 179 2 0 1581 10, mj_n, mj_n, mj_o (.iload 5), mj_n, mj_o .isub, mj_o (.istore 6), mj_n, mj_q (.ldc 79) 1000000000 0 0 1593 0, mj_n, mj_o (.aload_n 0), mj_o (.iload 4), mj_n, mj_o (.iload 5), mj_n, mj_o (.iconst 1), mj_o .isub, mj_q (.invokevirtual 64) 180 3 0 1602 10, mj_n, mj_n, mj_o (.iconst 1), mj_o .iadd, mj_o .idiv, mj_o (.istore 7), mj_n, mj_o (.aload_n 0), mj_q (.getfield 17) 10 4 0 1487 0, mj_n, mj_n, mj_o (.iload_n 3), mj_o (.sipush 702), mj_n, mj_n, mj_o .imul, mj_o (.iconst 2), mj_o .iadd, mj_o (.aload_n 0), mj_q (.getfield 21) 10 5 0 1488 0, mj_n, mj_n, mj_o (.iconst 0), mj_o (.iload 5), mj_n, mj_o (.iload 6), mj_n, mj_o .iadd, mj_q (.invokestatic 58) 0 0 4 1585 0, mj_n, mj_n, mj_o (.aload_n 0), mj_q (.getfield 17) 10 4 0 1487 0, mj_n, mj_n, mj_o (.iload 4), mj_n, mj_o (.sipush 702), mj_n, mj_n, mj_o .imul, mj_o (.iconst 2), mj_o .iadd, mj_o (.aload_n 0), mj_q (.getfield 24) 10 6 0 1489 0, mj_n, mj_n, mj_o (.iconst 0), mj_o (.iload 5), mj_n, mj_q (.invokestatic 58) 0 0 4 1585 0, mj_n, mj_n, mj_o (.aload_n 0), mj_q (.getfield 21) 10 5 0 1488 0, mj_n, mj_n, mj_o (.iload 5), mj_n, mj_o (.iload 6), mj_n, mj_o .iadd, mj_o (.iload 7), mj_n, mj_q (.invokestatic 94) 190 3 0 1715 0, mj_n, mj_n, mj_o (.aload_n 0), mj_q (.getfield 24) 10 6 0 1489 0]
def mj_l191_1 : List (Option mj_I) := [mj_n, mj_n, mj_o (.iload 5), mj_n, mj_o (.iload 7), mj_n, mj_q (.invokestatic 94) 190 3 0 1715 0, mj_n, mj_n, mj_o (.iload 6), mj_n, mj_o (.istore 8), mj_n, mj_o (.iload 8), mj_n, mj_q (.ifCond .lt 32) 167 0 0 0 0, mj_n, mj_n, mj_o (.aload_n 0), mj_q (.getfield 17) 10 4 0 1487 0, mj_n, mj_n, mj_o (.iload_n 1), mj_o (.sipush 702), mj_n, mj_n, mj_o .imul, mj_o (.iconst 2), mj_o .iadd, mj_o (.iload 8), mj_n, mj_o .iadd, mj_o (.aload_n 0), mj_o (.iload 8), mj_n, mj_o (.iload 5), mj_n, mj_q (.invokevirtual 98) 192 3 0 1718 10, mj_n, mj_n, mj_o .iastore, mj_o (.iinc 8 (-1)), mj_n, mj_n, mj_q (.goto (-31)) 133 0 0 0 0, mj_n, mj_n, mj_o (.aload_n 0), mj_q (.getfield 17) 10 4 0 1487 0, mj_n, mj_n, mj_o (.iload_n 1), mj_o (.sipush 702), mj_n, mj_n, mj_o .imul, mj_o (.aload_n 0), mj_o (.iload_n 3), mj_q (.invokevirtual 68) 178 2 0 1573 10, mj_n, mj_n, mj_o (.aload_n 0), mj_o (.iload 4), mj_n, mj_q (.invokevirtual 68) 178 2 0 1573 10, mj_n, mj_n, mj_o .imul, mj_o .iastore, mj_o (.aload_n 0), mj_o (.iload_n 1), mj_o (.iload 6), mj_n, mj_o (.iconst 1), mj_o .iadd, mj_q (.invokevirtual 80) 183 3 0 1594 10, mj_n, mj_n, mj_o (.lconst 0), mj_o (.lstore 8), mj_n, mj_o (.iload 5), mj_n, mj_o (.iconst 1), mj_o .isub, mj_o (.istore 10), mj_n, mj_o (.iload 10), mj_n, mj_q (.ifCond .lt 56) 265 0 0 0 0, mj_n, mj_n, mj_o (.lload 8), mj_n, mj_q (.ldc2_w 56) 1000000000 0 0 1482 0, mj_n, mj_n, mj_o .lmul, mj_o (.aload_n 0), mj_q (.getfield 21) 10 5 0 1488 0, mj_n, mj_n, mj_o (.iload 10), mj_n, mj_o .iaload, mj_o .i2l, mj_o .ladd, mj_o (.lstore 11), mj_n, mj_o (.aload_n 0), mj_q (.getfield 17) 10 4 0 1487 0, mj_n, mj_n, mj_o (.iload_n 2), mj_o (.sipush 702), mj_n, mj_n, mj_o .imul, mj_o (.iconst 2), mj_o .iadd]
def mj_l191_2 : List (Option mj_I) := [mj_o (.iload 10), mj_n, mj_o .iadd, mj_o (.lload 11), mj_n, mj_o (.iload 7), mj_n, mj_o .i2l, mj_o .ldiv, mj_o .l2i, mj_o .iastore, mj_o (.lload 11), mj_n, mj_o (.iload 7), mj_n, mj_o .i2l, mj_o .lrem, mj_o (.lstore 8), mj_n, mj_o (.iinc 10 (-1)), mj_n, mj_n, mj_q (.goto (-55)) 207 0 0 0 0, mj_n, mj_n, mj_o (.aload_n 0), mj_q (.getfield 17) 10 4 0 1487 0, mj_n, mj_n, mj_o (.iload_n 2), mj_o (.sipush 702), mj_n, mj_n, mj_o .imul, mj_o (.aload_n 0), mj_o (.iload_n 3), mj_q (.invokevirtual 68) 178 2 0 1573 10, mj_n, mj_n, mj_o .iastore, mj_o (.aload_n 0), mj_o (.iload_n 2), mj_o (.iload 5), mj_n, mj_q (.invokevirtual 80) 183 3 0 1594 10, mj_n, mj_n, mj_o .return_]
def mj_l191 : List (Option mj_I) := mj_l191_0 ++ (mj_l191_1 ++ (mj_l191_2))
def mj_m191 : mj_M := (⟨"PolyRegistersModel", "cuts", "(IIII)V"⟩, prog_12_method_18_code, 13, none, mj_look mj_l191, [], 1, 1714, 118, 1713, 62)
-- 192: PolyRegistersModel.dividesLimb(II)I
def mj_l192_0 : List (Option mj_I) := [mj_o (.aload_n 0), mj_q (.getfield 21) 10 5 0 1488 0, mj_n, mj_n, mj_o (.iload_n 1), mj_o (.iload_n 2), mj_o .iadd, mj_o .iaload, mj_o .i2l, mj_q (.ldc2_w 56) 1000000000 0 0 1482 0, mj_n, mj_n, mj_o .lmul, mj_o (.aload_n 0), mj_q (.getfield 21) 10 5 0 1488 0, mj_n, mj_n, mj_o (.iload_n 1), mj_o (.iload_n 2), mj_o .iadd, mj_o (.iconst 1), mj_o .isub, mj_o .iaload, mj_o .i2l, mj_o .ladd, mj_o (.lstore_n 3), mj_o (.lload_n 3), mj_o (.aload_n 0), mj_q (.getfield 24) 10 6 0 1489 0, mj_n, mj_n, mj_o (.iload_n 2), mj_o (.iconst 1), mj_o .isub, mj_o .iaload, mj_o .i2l, mj_o .ldiv, mj_o (.lstore 5), mj_n, mj_o (.lload_n 3), mj_o (.aload_n 0), mj_q (.getfield 24) 10 6 0 1489 0, mj_n, mj_n, mj_o (.iload_n 2), mj_o (.iconst 1), mj_o .isub, mj_o .iaload, mj_o .i2l, mj_o .lrem, mj_o (.lstore 7), mj_n, mj_o (.iload_n 2), mj_o (.iconst 1), mj_q (.if_icmp .le 15) 69 0 0 0 0, mj_n, mj_n, mj_o (.aload_n 0), mj_q (.getfield 24) 10 6 0 1489 0, mj_n, mj_n, mj_o (.iload_n 2), mj_o (.iconst 2), mj_o .isub, mj_o .iaload, mj_o .i2l, mj_q (.goto 4) 70 0 0 0 0, mj_n, mj_n, mj_o (.lconst 0), mj_o (.lstore 9), mj_n, mj_o (.iload_n 2), mj_o (.iconst 1), mj_q (.if_icmp .le 17) 91 0 0 0 0, mj_n, mj_n, mj_o (.aload_n 0), mj_q (.getfield 21) 10 5 0 1488 0, mj_n, mj_n, mj_o (.iload_n 1), mj_o (.iload_n 2), mj_o .iadd, mj_o (.iconst 2), mj_o .isub, mj_o .iaload, mj_o .i2l, mj_q (.goto 4) 92 0 0 0 0, mj_n, mj_n, mj_o (.lconst 0), mj_o (.lstore 11), mj_n, mj_o (.lload 5), mj_n, mj_q (.ldc2_w 56) 1000000000 0 0 1482 0, mj_n, mj_n, mj_o .lcmp, mj_q (.ifCond .ge 21) 121 0 0 0 0, mj_n, mj_n, mj_o (.lload 5), mj_n, mj_o (.lload 9), mj_n, mj_o .lmul, mj_o (.lload 7), mj_n, mj_q (.ldc2_w 56) 1000000000 0 0 1482 0, mj_n, mj_n, mj_o .lmul, mj_o (.lload 11), mj_n, mj_o .ladd, mj_o .lcmp, mj_q (.ifCond .le 35) 153 0 0 0 0, mj_n]
def mj_l192_1 : List (Option mj_I) := [mj_n, mj_o (.lload 5), mj_n, mj_o (.lconst 1), mj_o .lsub, mj_o (.lstore 5), mj_n, mj_o (.lload 7), mj_n, mj_o (.aload_n 0), mj_q (.getfield 24) 10 6 0 1489 0, mj_n, mj_n, mj_o (.iload_n 2), mj_o (.iconst 1), mj_o .isub, mj_o .iaload, mj_o .i2l, mj_o .ladd, mj_o (.lstore 7), mj_n, mj_o (.lload 7), mj_n, mj_q (.ldc2_w 56) 1000000000 0 0 1482 0, mj_n, mj_n, mj_o .lcmp, mj_q (.ifCond .lt (-53)) 94 0 0 0 0, mj_n, mj_n, mj_q (.goto 3) 153 0 0 0 0, mj_n, mj_n, mj_o (.lconst 0), mj_o (.lstore 13), mj_n, mj_o (.iconst 0), mj_o (.istore 15), mj_n, mj_o (.iconst 0), mj_o (.istore 16), mj_n, mj_o (.iload 16), mj_n, mj_o (.iload_n 2), mj_q (.if_icmp .gt 100) 265 0 0 0 0, mj_n, mj_n, mj_o (.iload 16), mj_n, mj_o (.iload_n 2), mj_q (.if_icmp .ge 17) 188 0 0 0 0, mj_n, mj_n, mj_o (.lload 5), mj_n, mj_o (.aload_n 0), mj_q (.getfield 24) 10 6 0 1489 0, mj_n, mj_n, mj_o (.iload 16), mj_n, mj_o .iaload, mj_o .i2l, mj_o .lmul, mj_q (.goto 4) 189 0 0 0 0, mj_n, mj_n, mj_o (.lconst 0), mj_o (.lload 13), mj_n, mj_o .ladd, mj_o (.lstore 17), mj_n, mj_o (.lload 17), mj_n, mj_q (.ldc2_w 56) 1000000000 0 0 1482 0, mj_n, mj_n, mj_o .ldiv, mj_o (.lstore 13), mj_n, mj_o (.aload_n 0), mj_q (.getfield 21) 10 5 0 1488 0, mj_n, mj_n, mj_o (.iload_n 1), mj_o (.iload 16), mj_n, mj_o .iadd, mj_o .iaload, mj_o .i2l, mj_o (.lload 17), mj_n, mj_q (.ldc2_w 56) 1000000000 0 0 1482 0, mj_n, mj_n, mj_o .lrem, mj_o .lsub, mj_o (.iload 15), mj_n, mj_o .i2l, mj_o .lsub, mj_o (.lstore 19), mj_n, mj_o (.lload 19), mj_n, mj_o (.lconst 0), mj_o .lcmp, mj_q (.ifCond .ge 7) 236 0 0 0 0, mj_n, mj_n, mj_o (.iconst 1), mj_q (.goto 4) 237 0 0 0 0, mj_n, mj_n, mj_o (.iconst 0), mj_o (.istore 15), mj_n, mj_o (.aload_n 0)]
def mj_l192_2 : List (Option mj_I) := [mj_q (.getfield 21) 10 5 0 1488 0, mj_n, mj_n, mj_o (.iload_n 1), mj_o (.iload 16), mj_n, mj_o .iadd, mj_o (.lload 19), mj_n, mj_o (.iload 15), mj_n, mj_o .i2l, mj_q (.ldc2_w 56) 1000000000 0 0 1482 0, mj_n, mj_n, mj_o .lmul, mj_o .ladd, mj_o .l2i, mj_o .iastore, mj_o (.iinc 16 1), mj_n, mj_n, mj_q (.goto (-100)) 162 0 0 0 0, mj_n, mj_n, mj_o (.iload 15), mj_n, mj_q (.ifCond .ne 7) 274 0 0 0 0, mj_n, mj_n, mj_o (.lload 5), mj_n, mj_o .l2i, mj_o .ireturn, mj_o (.iconst 0), mj_o (.istore 16), mj_n, mj_o (.iconst 0), mj_o (.istore 17), mj_n, mj_o (.iload 17), mj_n, mj_o (.iload_n 2), mj_q (.if_icmp .gt 72) 355 0 0 0 0, mj_n, mj_n, mj_o (.aload_n 0), mj_q (.getfield 21) 10 5 0 1488 0, mj_n, mj_n, mj_o (.iload_n 1), mj_o (.iload 17), mj_n, mj_o .iadd, mj_o .iaload, mj_o (.iload 17), mj_n, mj_o (.iload_n 2), mj_q (.if_icmp .ge 13) 311 0 0 0 0, mj_n, mj_n, mj_o (.aload_n 0), mj_q (.getfield 24) 10 6 0 1489 0, mj_n, mj_n, mj_o (.iload 17), mj_n, mj_o .iaload, mj_q (.goto 4) 312 0 0 0 0, mj_n, mj_n, mj_o (.iconst 0), mj_o .iadd, mj_o (.iload 16), mj_n, mj_o .iadd, mj_o (.istore 18), mj_n, mj_o (.iload 18), mj_n, mj_q (.ldc 79) 1000000000 0 0 1593 0, mj_n, mj_q (.if_icmp .lt 7) 329 0 0 0 0, mj_n, mj_n, mj_o (.iconst 1), mj_q (.goto 4) 330 0 0 0 0, mj_n, mj_n, mj_o (.iconst 0), mj_o (.istore 16), mj_n, mj_o (.aload_n 0), mj_q (.getfield 21) 10 5 0 1488 0, mj_n, mj_n, mj_o (.iload_n 1), mj_o (.iload 17), mj_n, mj_o .iadd, mj_o (.iload 18), mj_n, mj_o (.iload 16), mj_n, mj_q (.ldc 79) 1000000000 0 0 1593 0, mj_n, mj_o .imul, mj_o .isub, mj_o .iastore, mj_o (.iinc 17 1), mj_n, mj_n, mj_q (.goto (-72)) 280 0 0 0 0, mj_n, mj_n, mj_o (.lload 5), mj_n, mj_o .l2i, mj_o (.iconst 1), mj_o .isub]
def mj_l192_3 : List (Option mj_I) := [mj_o .ireturn]
def mj_l192 : List (Option mj_I) := mj_l192_0 ++ (mj_l192_1 ++ (mj_l192_2 ++ (mj_l192_3)))
def mj_m192 : mj_M := (⟨"PolyRegistersModel", "dividesLimb", "(II)I"⟩, prog_12_method_19_code, 21, some FieldType.int, mj_look mj_l192, [], 1, 1721, 118, 1720, 63)
-- 193: PolyRegistersModel.commons(III)V
def mj_l193 : List (Option mj_I) := [mj_o (.aload_n 0), mj_o (.sipush 663), mj_n, mj_n, mj_o (.iload_n 2), mj_q (.invokevirtual 84) 182 3 0 1577 10, mj_n, mj_n, mj_o (.aload_n 0), mj_o (.sipush 664), mj_n, mj_n, mj_o (.iload_n 3), mj_q (.invokevirtual 84) 182 3 0 1577 10, mj_n, mj_n, mj_o (.aload_n 0), mj_o (.sipush 664), mj_n, mj_n, mj_q (.invokevirtual 68) 178 2 0 1573 10, mj_n, mj_n, mj_q (.ifCond .eq 38) 61 0 0 0 0, mj_n, mj_n, mj_o (.aload_n 0), mj_o (.sipush 655), mj_n, mj_n, mj_o (.iload_n 1), mj_o (.sipush 663), mj_n, mj_n, mj_o (.sipush 664), mj_n, mj_n, mj_q (.invokevirtual 101) 191 5 0 1711 10, mj_n, mj_n, mj_o (.aload_n 0), mj_o (.sipush 663), mj_n, mj_n, mj_o (.sipush 664), mj_n, mj_n, mj_q (.invokevirtual 84) 182 3 0 1577 10, mj_n, mj_n, mj_o (.aload_n 0), mj_o (.sipush 664), mj_n, mj_n, mj_o (.iload_n 1), mj_q (.invokevirtual 84) 182 3 0 1577 10, mj_n, mj_n, mj_q (.goto (-42)) 16 0 0 0 0, mj_n, mj_n, mj_o (.aload_n 0), mj_o (.iload_n 1), mj_o (.sipush 663), mj_n, mj_n, mj_q (.invokevirtual 84) 182 3 0 1577 10, mj_n, mj_n, mj_o (.aload_n 0), mj_q (.getfield 17) 10 4 0 1487 0, mj_n, mj_n, mj_o (.iload_n 1), mj_o (.sipush 702), mj_n, mj_n, mj_o .imul, mj_o (.aload_n 0), mj_o (.iload_n 1), mj_q (.invokevirtual 68) 178 2 0 1573 10, mj_n, mj_n, mj_q (.ifCond .ne 7) 90 0 0 0 0, mj_n, mj_n, mj_o (.iconst 0), mj_q (.goto 4) 91 0 0 0 0, mj_n, mj_n, mj_o (.iconst 1), mj_o .iastore, mj_o .return_]
def mj_m193 : mj_M := (⟨"PolyRegistersModel", "commons", "(III)V"⟩, prog_12_method_20_code, 4, none, mj_look mj_l193, [], 1, 1710, 118, 1709, 61)
-- 194: PolyRegistersModel.exact(II)V
def mj_l194 : List (Option mj_I) := [mj_o (.aload_n 0), mj_o (.sipush 663), mj_n, mj_n, mj_o (.iload_n 1), mj_q (.invokevirtual 84) 182 3 0 1577 10, mj_n, mj_n, mj_o (.aload_n 0), mj_o (.iload_n 1), mj_o (.sipush 664), mj_n, mj_n, mj_o (.sipush 663), mj_n, mj_n, mj_o (.iload_n 2), mj_q (.invokevirtual 101) 191 5 0 1711 10, mj_n, mj_n, mj_o .return_]
def mj_m194 : mj_M := (⟨"PolyRegistersModel", "exact", "(II)V"⟩, prog_12_method_21_code, 3, none, mj_look mj_l194, [], 1, 1737, 118, 1736, 67)
-- 195: PolyRegistersModel.asLong(I)J
def mj_l195 : List (Option mj_I) := [mj_o (.lconst 0), mj_o (.lstore_n 2), mj_o (.aload_n 0), mj_o (.iload_n 1), mj_q (.invokevirtual 52) 179 2 0 1581 10, mj_n, mj_n, mj_o (.iconst 1), mj_o .isub, mj_o (.istore 4), mj_n, mj_o (.iload 4), mj_n, mj_q (.ifCond .lt 24) 37 0 0 0 0, mj_n, mj_n, mj_o (.lload_n 2), mj_q (.ldc2_w 56) 1000000000 0 0 1482 0, mj_n, mj_n, mj_o .lmul, mj_o (.aload_n 0), mj_o (.iload_n 1), mj_o (.iload 4), mj_n, mj_q (.invokevirtual 64) 180 3 0 1602 10, mj_n, mj_n, mj_o .i2l, mj_o .ladd, mj_o (.lstore_n 2), mj_o (.iinc 4 (-1)), mj_n, mj_n, mj_q (.goto (-23)) 11 0 0 0 0, mj_n, mj_n, mj_o (.aload_n 0), mj_o (.iload_n 1), mj_q (.invokevirtual 68) 178 2 0 1573 10, mj_n, mj_n, mj_q (.ifCond .ge 8) 50 0 0 0 0, mj_n, mj_n, mj_o (.lload_n 2), mj_o .lneg, mj_q (.goto 4) 51 0 0 0 0, mj_n, mj_n, mj_o (.lload_n 2), mj_o .lreturn]
def mj_m195 : mj_M := (⟨"PolyRegistersModel", "asLong", "(I)J"⟩, prog_12_method_22_code, 5, some FieldType.long, mj_look mj_l195, [], 1, 1629, 118, 1628, 48)
-- 196: PolyRegistersModel.slot(II)I
def mj_l196 : List (Option mj_I) := [mj_o (.iload_n 0), mj_o (.bipush 13), mj_n, mj_o .imul, mj_o (.iload_n 1), mj_o .iadd, mj_o .ireturn]
def mj_m196 : mj_M := (⟨"PolyRegistersModel", "slot", "(II)I"⟩, prog_12_method_23_code, 2, some FieldType.int, mj_look mj_l196, [], 0, 1564, 118, 1563, 0)
-- 197: PolyRegistersModel.degreeOf(I)I
def mj_l197 : List (Option mj_I) := [mj_o (.bipush 12), mj_n, mj_o (.istore_n 2), mj_o (.iload_n 2), mj_q (.ifCond .lt 21) 25 0 0 0 0, mj_n, mj_n, mj_o (.aload_n 0), mj_o (.iload_n 1), mj_o (.iload_n 2), mj_q (.invokestatic 104) 196 2 0 1562 0, mj_n, mj_n, mj_q (.invokevirtual 68) 178 2 0 1573 10, mj_n, mj_n, mj_q (.ifCond .ne 9) 25 0 0 0 0, mj_n, mj_n, mj_o (.iinc 2 (-1)), mj_n, mj_n, mj_q (.goto (-19)) 3 0 0 0 0, mj_n, mj_n, mj_o (.iload_n 2), mj_o .ireturn]
def mj_m197 : mj_M := (⟨"PolyRegistersModel", "degreeOf", "(I)I"⟩, prog_12_method_24_code, 3, some FieldType.int, mj_look mj_l197, [], 1, 1633, 118, 1632, 49)
-- 198: PolyRegistersModel.empties(I)V
def mj_l198 : List (Option mj_I) := [mj_o (.iconst 0), mj_o (.istore_n 2), mj_o (.iload_n 2), mj_o (.bipush 13), mj_n, mj_q (.if_icmp .ge 19) 24 0 0 0 0, mj_n, mj_n, mj_o (.aload_n 0), mj_o (.iload_n 1), mj_o (.iload_n 2), mj_q (.invokestatic 104) 196 2 0 1562 0, mj_n, mj_n, mj_o (.lconst 0), mj_q (.invokevirtual 45) 181 3 0 1478 10, mj_n, mj_n, mj_o (.iinc 2 1), mj_n, mj_n, mj_q (.goto (-19)) 2 0 0 0 0, mj_n, mj_n, mj_o .return_]
def mj_m198 : mj_M := (⟨"PolyRegistersModel", "empties", "(I)V"⟩, prog_12_method_25_code, 3, none, mj_look mj_l198, [], 1, 1653, 118, 1652, 52)
-- 199: PolyRegistersModel.loads(II)V
def mj_l199 : List (Option mj_I) := [mj_o (.iconst 0), mj_o (.istore_n 3), mj_o (.iload_n 3), mj_o (.bipush 13), mj_n, mj_q (.if_icmp .ge 29) 34 0 0 0 0, mj_n, mj_n, mj_o (.aload_n 0), mj_o (.iload_n 1), mj_o (.iload_n 3), mj_q (.invokestatic 104) 196 2 0 1562 0, mj_n, mj_n, mj_o (.aload_n 0), mj_q (.getfield 9) 10 0 0 1483 0, mj_n, mj_n, mj_o (.iload_n 2), mj_o (.bipush 13), mj_n, mj_o .imul, mj_o (.iload_n 3), mj_o .iadd, mj_o .laload, mj_q (.invokevirtual 45) 181 3 0 1478 10, mj_n, mj_n, mj_o (.iinc 3 1), mj_n, mj_n, mj_q (.goto (-29)) 2 0 0 0 0, mj_n, mj_n, mj_o .return_]
def mj_m199 : mj_M := (⟨"PolyRegistersModel", "loads", "(II)V"⟩, prog_12_method_26_code, 4, none, mj_look mj_l199, [], 1, 1561, 118, 1560, 33)
-- 200: PolyRegistersModel.copiesPoly(II)V
def mj_l200 : List (Option mj_I) := [mj_o (.iconst 0), mj_o (.istore_n 3), mj_o (.iload_n 3), mj_o (.bipush 13), mj_n, mj_q (.if_icmp .ge 23) 28 0 0 0 0, mj_n, mj_n, mj_o (.aload_n 0), mj_o (.iload_n 1), mj_o (.iload_n 3), mj_q (.invokestatic 104) 196 2 0 1562 0, mj_n, mj_n, mj_o (.iload_n 2), mj_o (.iload_n 3), mj_q (.invokestatic 104) 196 2 0 1562 0, mj_n, mj_n, mj_q (.invokevirtual 84) 182 3 0 1577 10, mj_n, mj_n, mj_o (.iinc 3 1), mj_n, mj_n, mj_q (.goto (-23)) 2 0 0 0 0, mj_n, mj_n, mj_o .return_]
def mj_m200 : mj_M := (⟨"PolyRegistersModel", "copiesPoly", "(II)V"⟩, prog_12_method_27_code, 4, none, mj_look mj_l200, [], 1, 1670, 118, 1669, 55)
-- 201: PolyRegistersModel.addsPoly(IIII)V
def mj_l201 : List (Option mj_I) := [mj_o (.iconst 0), mj_o (.istore 5), mj_n, mj_o (.iload 5), mj_n, mj_o (.bipush 13), mj_n, mj_q (.if_icmp .ge 33) 40 0 0 0 0, mj_n, mj_n, mj_o (.aload_n 0), mj_o (.iload_n 1), mj_o (.iload 5), mj_n, mj_q (.invokestatic 104) 196 2 0 1562 0, mj_n, mj_n, mj_o (.iload_n 2), mj_o (.iload 5), mj_n, mj_q (.invokestatic 104) 196 2 0 1562 0, mj_n, mj_n, mj_o (.iload_n 3), mj_o (.iload 5), mj_n, mj_q (.invokestatic 104) 196 2 0 1562 0, mj_n, mj_n, mj_o (.iload 4), mj_n, mj_q (.invokevirtual 107) 188 5 0 1569 10, mj_n, mj_n, mj_o (.iinc 5 1), mj_n, mj_n, mj_q (.goto (-34)) 3 0 0 0 0, mj_n, mj_n, mj_o .return_]
def mj_m201 : mj_M := (⟨"PolyRegistersModel", "addsPoly", "(IIII)V"⟩, prog_12_method_28_code, 6, none, mj_look mj_l201, [], 1, 1568, 118, 1567, 34)
-- 202: PolyRegistersModel.multipliesPoly(III)V
def mj_l202 : List (Option mj_I) := [mj_o (.aload_n 0), mj_o (.iload_n 1), mj_q (.invokevirtual 110) 198 2 0 1650 10, mj_n, mj_n, mj_o (.aload_n 0), mj_o (.iload_n 2), mj_q (.invokevirtual 114) 197 2 0 1630 10, mj_n, mj_n, mj_o (.istore 4), mj_n, mj_o (.iload 4), mj_n, mj_q (.ifCond .lt 72) 86 0 0 0 0, mj_n, mj_n, mj_o (.aload_n 0), mj_o (.iload_n 3), mj_q (.invokevirtual 114) 197 2 0 1630 10, mj_n, mj_n, mj_o (.istore 5), mj_n, mj_o (.iload 5), mj_n, mj_q (.ifCond .lt 54) 80 0 0 0 0, mj_n, mj_n, mj_o (.aload_n 0), mj_o (.sipush 652), mj_n, mj_n, mj_o (.iload_n 2), mj_o (.iload 4), mj_n, mj_q (.invokestatic 104) 196 2 0 1562 0, mj_n, mj_n, mj_o (.iload_n 3), mj_o (.iload 5), mj_n, mj_q (.invokestatic 104) 196 2 0 1562 0, mj_n, mj_n, mj_q (.invokevirtual 117) 189 4 0 1654 10, mj_n, mj_n, mj_o (.aload_n 0), mj_o (.iload_n 1), mj_o (.iload 4), mj_n, mj_o (.iload 5), mj_n, mj_o .iadd, mj_q (.invokestatic 104) 196 2 0 1562 0, mj_n, mj_n, mj_o (.iload_n 1), mj_o (.iload 4), mj_n, mj_o (.iload 5), mj_n, mj_o .iadd, mj_q (.invokestatic 104) 196 2 0 1562 0, mj_n, mj_n, mj_o (.sipush 652), mj_n, mj_n, mj_o (.iconst 1), mj_q (.invokevirtual 107) 188 5 0 1569 10, mj_n, mj_n, mj_o (.iinc 5 (-1)), mj_n, mj_n, mj_q (.goto (-53)) 24 0 0 0 0, mj_n, mj_n, mj_o (.iinc 4 (-1)), mj_n, mj_n, mj_q (.goto (-71)) 12 0 0 0 0, mj_n, mj_n, mj_o .return_]
def mj_m202 : mj_M := (⟨"PolyRegistersModel", "multipliesPoly", "(III)V"⟩, prog_12_method_29_code, 6, none, mj_look mj_l202, [], 1, 1649, 118, 1648, 51)
-- 203: PolyRegistersModel.isTooHigh(II)Z
def mj_l203 : List (Option mj_I) := [mj_o (.aload_n 0), mj_o (.iload_n 1), mj_q (.invokevirtual 114) 197 2 0 1630 10, mj_n, mj_n, mj_q (.ifCond .lt 31) 36 0 0 0 0, mj_n, mj_n, mj_o (.aload_n 0), mj_o (.iload_n 2), mj_q (.invokevirtual 114) 197 2 0 1630 10, mj_n, mj_n, mj_q (.ifCond .lt 23) 36 0 0 0 0, mj_n, mj_n, mj_o (.aload_n 0), mj_o (.iload_n 1), mj_q (.invokevirtual 114) 197 2 0 1630 10, mj_n, mj_n, mj_o (.aload_n 0), mj_o (.iload_n 2), mj_q (.invokevirtual 114) 197 2 0 1630 10, mj_n, mj_n, mj_o .iadd, mj_o (.bipush 12), mj_n, mj_q (.if_icmp .le 7) 36 0 0 0 0, mj_n, mj_n, mj_o (.iconst 1), mj_q (.goto 4) 37 0 0 0 0, mj_n, mj_n, mj_o (.iconst 0), mj_o .ireturn]
def mj_m203 : mj_M := (⟨"PolyRegistersModel", "isTooHigh", "(II)Z"⟩, prog_12_method_30_code, 3, some FieldType.boolean, mj_look mj_l203, [], 1, 1645, 118, 1644, 50)
-- 204: PolyRegistersModel.raises(III)Z
def mj_l204 : List (Option mj_I) := [mj_o (.aload_n 0), mj_o (.iload_n 2), mj_q (.invokevirtual 114) 197 2 0 1630 10, mj_n, mj_n, mj_q (.ifCond .le 17) 22 0 0 0 0, mj_n, mj_n, mj_o (.aload_n 0), mj_o (.iload_n 2), mj_q (.invokevirtual 114) 197 2 0 1630 10, mj_n, mj_n, mj_o (.iload_n 3), mj_o .imul, mj_o (.bipush 12), mj_n, mj_q (.if_icmp .le 5) 22 0 0 0 0, mj_n, mj_n, mj_o (.iconst 0), mj_o .ireturn, mj_o (.aload_n 0), mj_o (.iload_n 1), mj_q (.invokevirtual 110) 198 2 0 1650 10, mj_n, mj_n, mj_o (.aload_n 0), mj_o (.iload_n 1), mj_o (.iconst 0), mj_q (.invokestatic 104) 196 2 0 1562 0, mj_n, mj_n, mj_o (.lconst 1), mj_q (.invokevirtual 45) 181 3 0 1478 10, mj_n, mj_n, mj_o (.iconst 0), mj_o (.istore 4), mj_n, mj_o (.iload 4), mj_n, mj_o (.iload_n 3), mj_q (.if_icmp .ge 24) 67 0 0 0 0, mj_n, mj_n, mj_o (.aload_n 0), mj_o (.bipush 7), mj_n, mj_o (.iload_n 1), mj_o (.iload_n 2), mj_q (.invokevirtual 121) 202 4 0 1646 10, mj_n, mj_n, mj_o (.aload_n 0), mj_o (.iload_n 1), mj_o (.bipush 7), mj_n, mj_q (.invokevirtual 124) 200 3 0 1667 10, mj_n, mj_n, mj_o (.iinc 4 1), mj_n, mj_n, mj_q (.goto (-24)) 40 0 0 0 0, mj_n, mj_n, mj_o (.iconst 1), mj_o .ireturn]
def mj_m204 : mj_M := (⟨"PolyRegistersModel", "raises", "(III)Z"⟩, prog_12_method_31_code, 5, some FieldType.boolean, mj_look mj_l204, [], 1, 1666, 118, 1665, 54)
-- 205: PolyRegistersModel.isInBounds(I)Z
def mj_l205 : List (Option mj_I) := [mj_o (.iconst 1), mj_o (.istore_n 2), mj_o (.iconst 0), mj_o (.istore_n 3), mj_o (.iload_n 3), mj_o (.bipush 13), mj_n, mj_q (.if_icmp .ge 32) 39 0 0 0 0, mj_n, mj_n, mj_o (.iload_n 2), mj_q (.ifCond .eq 20) 31 0 0 0 0, mj_n, mj_n, mj_o (.aload_n 0), mj_o (.iload_n 1), mj_o (.iload_n 3), mj_q (.invokestatic 104) 196 2 0 1562 0, mj_n, mj_n, mj_q (.invokevirtual 52) 179 2 0 1581 10, mj_n, mj_n, mj_o (.iconst 2), mj_q (.if_icmp .gt 7) 31 0 0 0 0, mj_n, mj_n, mj_o (.iconst 1), mj_q (.goto 4) 32 0 0 0 0, mj_n, mj_n, mj_o (.iconst 0), mj_o (.istore_n 2), mj_o (.iinc 3 1), mj_n, mj_n, mj_q (.goto (-32)) 4 0 0 0 0, mj_n, mj_n, mj_o (.iload_n 2), mj_o .ireturn]
def mj_m205 : mj_M := (⟨"PolyRegistersModel", "isInBounds", "(I)Z"⟩, prog_12_method_32_code, 4, some FieldType.boolean, mj_look mj_l205, [], 1, 1617, 118, 1616, 45)
-- 206: PolyRegistersModel.derives(II)V
def mj_l206 : List (Option mj_I) := [mj_o (.iconst 1), mj_o (.istore_n 3), mj_o (.iload_n 3), mj_o (.bipush 12), mj_n, mj_q (.if_icmp .gt 37) 42 0 0 0 0, mj_n, mj_n, mj_o (.aload_n 0), mj_o (.sipush 652), mj_n, mj_n, mj_o (.iload_n 3), mj_o .i2l, mj_q (.invokevirtual 45) 181 3 0 1478 10, mj_n, mj_n, mj_o (.aload_n 0), mj_o (.iload_n 1), mj_o (.iload_n 3), mj_o (.iconst 1), mj_o .isub, mj_q (.invokestatic 104) 196 2 0 1562 0, mj_n, mj_n, mj_o (.iload_n 2), mj_o (.iload_n 3), mj_q (.invokestatic 104) 196 2 0 1562 0, mj_n, mj_n, mj_o (.sipush 652), mj_n, mj_n, mj_q (.invokevirtual 117) 189 4 0 1654 10, mj_n, mj_n, mj_o (.iinc 3 1), mj_n, mj_n, mj_q (.goto (-37)) 2 0 0 0 0, mj_n, mj_n, mj_o (.aload_n 0), mj_o (.iload_n 1), mj_o (.bipush 12), mj_n, mj_q (.invokestatic 104) 196 2 0 1562 0, mj_n, mj_n, mj_o (.lconst 0), mj_q (.invokevirtual 45) 181 3 0 1478 10, mj_n, mj_n, mj_o .return_]
def mj_m206 : mj_M := (⟨"PolyRegistersModel", "derives", "(II)V"⟩, prog_12_method_33_code, 4, none, mj_look mj_l206, [], 1, 1678, 118, 1677, 56)
-- 207: PolyRegistersModel.contents(II)V
def mj_l207 : List (Option mj_I) := [mj_o (.aload_n 0), mj_o (.iload_n 1), mj_o (.lconst 0), mj_q (.invokevirtual 45) 181 3 0 1478 10, mj_n, mj_n, mj_o (.aload_n 0), mj_o (.iload_n 2), mj_q (.invokevirtual 114) 197 2 0 1630 10, mj_n, mj_n, mj_o (.istore_n 3), mj_o (.iload_n 3), mj_q (.ifCond .lt 30) 43 0 0 0 0, mj_n, mj_n, mj_o (.aload_n 0), mj_o (.sipush 652), mj_n, mj_n, mj_o (.iload_n 1), mj_q (.invokevirtual 84) 182 3 0 1577 10, mj_n, mj_n, mj_o (.aload_n 0), mj_o (.iload_n 1), mj_o (.sipush 652), mj_n, mj_n, mj_o (.iload_n 2), mj_o (.iload_n 3), mj_q (.invokestatic 104) 196 2 0 1562 0, mj_n, mj_n, mj_q (.invokevirtual 127) 193 4 0 1707 10, mj_n, mj_n, mj_o (.iinc 3 (-1)), mj_n, mj_n, mj_q (.goto (-28)) 12 0 0 0 0, mj_n, mj_n, mj_o .return_]
def mj_m207 : mj_M := (⟨"PolyRegistersModel", "contents", "(II)V"⟩, prog_12_method_34_code, 4, none, mj_look mj_l207, [], 1, 1706, 118, 1705, 60)
-- 208: PolyRegistersModel.negates(I)V
def mj_l208 : List (Option mj_I) := [mj_o (.iconst 0), mj_o (.istore_n 2), mj_o (.iload_n 2), mj_o (.bipush 13), mj_n, mj_q (.if_icmp .ge 33) 38 0 0 0 0, mj_n, mj_n, mj_o (.aload_n 0), mj_q (.getfield 17) 10 4 0 1487 0, mj_n, mj_n, mj_o (.iload_n 1), mj_o (.iload_n 2), mj_q (.invokestatic 104) 196 2 0 1562 0, mj_n, mj_n, mj_o (.sipush 702), mj_n, mj_n, mj_o .imul, mj_o (.aload_n 0), mj_o (.iload_n 1), mj_o (.iload_n 2), mj_q (.invokestatic 104) 196 2 0 1562 0, mj_n, mj_n, mj_q (.invokevirtual 68) 178 2 0 1573 10, mj_n, mj_n, mj_o .ineg, mj_o .iastore, mj_o (.iinc 2 1), mj_n, mj_n, mj_q (.goto (-33)) 2 0 0 0 0, mj_n, mj_n, mj_o .return_]
def mj_m208 : mj_M := (⟨"PolyRegistersModel", "negates", "(I)V"⟩, prog_12_method_35_code, 3, none, mj_look mj_l208, [], 1, 1741, 118, 1740, 68)
-- 209: PolyRegistersModel.shrinks(I)V
def mj_l209 : List (Option mj_I) := [mj_o (.aload_n 0), mj_o (.sipush 653), mj_n, mj_n, mj_o (.iload_n 1), mj_q (.invokevirtual 130) 207 3 0 1703 10, mj_n, mj_n, mj_o (.aload_n 0), mj_o (.sipush 653), mj_n, mj_n, mj_q (.invokevirtual 52) 179 2 0 1581 10, mj_n, mj_n, mj_o (.iconst 1), mj_q (.if_icmp .ne 16) 32 0 0 0 0, mj_n, mj_n, mj_o (.aload_n 0), mj_o (.sipush 653), mj_n, mj_n, mj_o (.iconst 0), mj_q (.invokevirtual 64) 180 3 0 1602 10, mj_n, mj_n, mj_o (.iconst 1), mj_q (.if_icmp .ne 4) 32 0 0 0 0, mj_n, mj_n, mj_o .return_, mj_o (.aload_n 0), mj_o (.iload_n 1), mj_q (.invokevirtual 114) 197 2 0 1630 10, mj_n, mj_n, mj_o (.istore_n 2), mj_o (.iload_n 2), mj_q (.ifCond .lt 21) 60 0 0 0 0, mj_n, mj_n, mj_o (.aload_n 0), mj_o (.iload_n 1), mj_o (.iload_n 2), mj_q (.invokestatic 104) 196 2 0 1562 0, mj_n, mj_n, mj_o (.sipush 653), mj_n, mj_n, mj_q (.invokevirtual 133) 194 3 0 1734 10, mj_n, mj_n, mj_o (.iinc 2 (-1)), mj_n, mj_n, mj_q (.goto (-19)) 38 0 0 0 0, mj_n, mj_n, mj_o .return_]
def mj_m209 : mj_M := (⟨"PolyRegistersModel", "shrinks", "(I)V"⟩, prog_12_method_36_code, 3, none, mj_look mj_l209, [], 1, 1733, 118, 1732, 66)
-- 210: PolyRegistersModel.makesPrimitive(I)V
def mj_l210 : List (Option mj_I) := [mj_o (.aload_n 0), mj_o (.iload_n 1), mj_q (.invokevirtual 136) 209 2 0 1730 10, mj_n, mj_n, mj_o (.aload_n 0), mj_o (.iload_n 1), mj_q (.invokevirtual 114) 197 2 0 1630 10, mj_n, mj_n, mj_o (.istore_n 2), mj_o (.iload_n 2), mj_q (.ifCond .lt 20) 32 0 0 0 0, mj_n, mj_n, mj_o (.aload_n 0), mj_o (.iload_n 1), mj_o (.iload_n 2), mj_q (.invokestatic 104) 196 2 0 1562 0, mj_n, mj_n, mj_q (.invokevirtual 68) 178 2 0 1573 10, mj_n, mj_n, mj_q (.ifCond .ge 8) 32 0 0 0 0, mj_n, mj_n, mj_o (.aload_n 0), mj_o (.iload_n 1), mj_q (.invokevirtual 139) 208 2 0 1738 10, mj_n, mj_n, mj_o .return_]
def mj_m210 : mj_M := (⟨"PolyRegistersModel", "makesPrimitive", "(I)V"⟩, prog_12_method_37_code, 3, none, mj_look mj_l210, [], 1, 1729, 118, 1728, 65)
-- 211: PolyRegistersModel.dividesPoly(IIII)I
def mj_l211_0 : List (Option mj_I) := [mj_o (.aload_n 0), mj_o (.iload 4), mj_n, mj_q (.invokevirtual 114) 197 2 0 1630 10, mj_n, mj_n, mj_o (.istore 5), mj_n, mj_o (.aload_n 0), mj_o (.iload_n 3), mj_q (.invokevirtual 114) 197 2 0 1630 10, mj_n, mj_n, mj_o (.iload 5), mj_n, mj_o .isub, mj_o (.iconst 1), mj_o .iadd, mj_o (.iconst 0), mj_q (.invokestatic 74) 0 0 2 1592 0, mj_n, mj_n, mj_o (.istore 6), mj_n, mj_o (.aload_n 0), mj_o (.iload_n 1), mj_q (.invokevirtual 110) 198 2 0 1650 10, mj_n, mj_n, mj_o (.iload_n 2), mj_o (.iload_n 3), mj_q (.if_icmp .eq 9) 40 0 0 0 0, mj_n, mj_n, mj_o (.aload_n 0), mj_o (.iload_n 2), mj_o (.iload_n 3), mj_q (.invokevirtual 124) 200 3 0 1667 10, mj_n, mj_n, mj_o (.iload 6), mj_n, mj_o (.istore 7), mj_n, mj_o (.aload_n 0), mj_o (.iload_n 2), mj_q (.invokevirtual 114) 197 2 0 1630 10, mj_n, mj_n, mj_o (.istore 8), mj_n, mj_o (.iload 8), mj_n, mj_o (.iload 5), mj_n, mj_q (.if_icmp .lt 183) 238 0 0 0 0, mj_n, mj_n, mj_o (.iload 7), mj_n, mj_q (.ifCond .le 178) 238 0 0 0 0, mj_n, mj_n, mj_o (.iinc 7 (-1)), mj_n, mj_n, mj_o (.aload_n 0), mj_o (.sipush 654), mj_n, mj_n, mj_o (.iload_n 2), mj_o (.iload 8), mj_n, mj_q (.invokestatic 104) 196 2 0 1562 0, mj_n, mj_n, mj_q (.invokevirtual 84) 182 3 0 1577 10, mj_n, mj_n, mj_o (.iconst 0), mj_o (.istore 9), mj_n, mj_o (.iload 9), mj_n, mj_o (.bipush 13), mj_n, mj_q (.if_icmp .ge 55) 141 0 0 0 0, mj_n, mj_n, mj_o (.aload_n 0), mj_o (.iload_n 1), mj_o (.iload 9), mj_n, mj_q (.invokestatic 104) 196 2 0 1562 0, mj_n, mj_n, mj_o (.iload_n 1), mj_o (.iload 9), mj_n, mj_q (.invokestatic 104) 196 2 0 1562 0, mj_n, mj_n, mj_o (.iload 4), mj_n, mj_o (.iload 5), mj_n, mj_q (.invokestatic 104) 196 2 0 1562 0, mj_n, mj_n, mj_q (.invokevirtual 117) 189 4 0 1654 10, mj_n, mj_n, mj_o (.aload_n 0), mj_o (.iload_n 2), mj_o (.iload 9), mj_n, mj_q (.invokestatic 104) 196 2 0 1562 0, mj_n, mj_n, mj_o (.iload_n 2)]
def mj_l211_1 : List (Option mj_I) := [mj_o (.iload 9), mj_n, mj_q (.invokestatic 104) 196 2 0 1562 0, mj_n, mj_n, mj_o (.iload 4), mj_n, mj_o (.iload 5), mj_n, mj_q (.invokestatic 104) 196 2 0 1562 0, mj_n, mj_n, mj_q (.invokevirtual 117) 189 4 0 1654 10, mj_n, mj_n, mj_o (.iinc 9 1), mj_n, mj_n, mj_q (.goto (-56)) 82 0 0 0 0, mj_n, mj_n, mj_o (.aload_n 0), mj_o (.iload_n 1), mj_o (.iload 8), mj_n, mj_o (.iload 5), mj_n, mj_o .isub, mj_q (.invokestatic 104) 196 2 0 1562 0, mj_n, mj_n, mj_o (.iload_n 1), mj_o (.iload 8), mj_n, mj_o (.iload 5), mj_n, mj_o .isub, mj_q (.invokestatic 104) 196 2 0 1562 0, mj_n, mj_n, mj_o (.sipush 654), mj_n, mj_n, mj_o (.iconst 1), mj_q (.invokevirtual 107) 188 5 0 1569 10, mj_n, mj_n, mj_o (.iconst 0), mj_o (.istore 9), mj_n, mj_o (.iload 9), mj_n, mj_o (.iload 5), mj_n, mj_q (.if_icmp .gt 58) 232 0 0 0 0, mj_n, mj_n, mj_o (.aload_n 0), mj_o (.sipush 652), mj_n, mj_n, mj_o (.sipush 654), mj_n, mj_n, mj_o (.iload 4), mj_n, mj_o (.iload 9), mj_n, mj_q (.invokestatic 104) 196 2 0 1562 0, mj_n, mj_n, mj_q (.invokevirtual 117) 189 4 0 1654 10, mj_n, mj_n, mj_o (.aload_n 0), mj_o (.iload_n 2), mj_o (.iload 8), mj_n, mj_o (.iload 5), mj_n, mj_o .isub, mj_o (.iload 9), mj_n, mj_o .iadd, mj_q (.invokestatic 104) 196 2 0 1562 0, mj_n, mj_n, mj_o (.iload_n 2), mj_o (.iload 8), mj_n, mj_o (.iload 5), mj_n, mj_o .isub, mj_o (.iload 9), mj_n, mj_o .iadd, mj_q (.invokestatic 104) 196 2 0 1562 0, mj_n, mj_n, mj_o (.sipush 652), mj_n, mj_n, mj_o (.iconst (-1)), mj_q (.invokevirtual 107) 188 5 0 1569 10, mj_n, mj_n, mj_o (.iinc 9 1), mj_n, mj_n, mj_q (.goto (-59)) 170 0 0 0 0, mj_n, mj_n, mj_o (.iinc 8 (-1)), mj_n, mj_n, mj_q (.goto (-184)) 51 0 0 0 0, mj_n, mj_n, mj_o (.iload 6), mj_n]
def mj_l211_2 : List (Option mj_I) := [mj_o .ireturn]
def mj_l211 : List (Option mj_I) := mj_l211_0 ++ (mj_l211_1 ++ (mj_l211_2))
def mj_m211 : mj_M := (⟨"PolyRegistersModel", "dividesPoly", "(IIII)I"⟩, prog_12_method_38_code, 10, some FieldType.int, mj_look mj_l211, [], 1, 1698, 118, 1697, 59)
-- 212: PolyRegistersModel.commonsPoly(III)V
def mj_l212 : List (Option mj_I) := [mj_o (.aload_n 0), mj_o (.iload_n 2), mj_q (.invokevirtual 142) 210 2 0 1726 10, mj_n, mj_n, mj_o (.aload_n 0), mj_o (.iload_n 3), mj_q (.invokevirtual 142) 210 2 0 1726 10, mj_n, mj_n, mj_o (.aload_n 0), mj_o (.iload_n 3), mj_q (.invokevirtual 114) 197 2 0 1630 10, mj_n, mj_n, mj_q (.ifCond .lt 33) 48 0 0 0 0, mj_n, mj_n, mj_o (.aload_n 0), mj_o (.iconst 2), mj_o (.iconst 3), mj_o (.iload_n 2), mj_o (.iload_n 3), mj_q (.invokevirtual 145) 211 5 0 1695 10, mj_n, mj_n, mj_o (.istore 4), mj_n, mj_o (.aload_n 0), mj_o (.iload_n 2), mj_o (.iload_n 3), mj_q (.invokevirtual 124) 200 3 0 1667 10, mj_n, mj_n, mj_o (.aload_n 0), mj_o (.iconst 3), mj_q (.invokevirtual 142) 210 2 0 1726 10, mj_n, mj_n, mj_o (.aload_n 0), mj_o (.iload_n 3), mj_o (.iconst 3), mj_q (.invokevirtual 124) 200 3 0 1667 10, mj_n, mj_n, mj_q (.goto (-35)) 10 0 0 0 0, mj_n, mj_n, mj_o (.aload_n 0), mj_o (.iload_n 1), mj_o (.iload_n 2), mj_q (.invokevirtual 124) 200 3 0 1667 10, mj_n, mj_n, mj_o .return_]
def mj_m212 : mj_M := (⟨"PolyRegistersModel", "commonsPoly", "(III)V"⟩, prog_12_method_39_code, 5, none, mj_look mj_l212, [], 1, 1725, 118, 1724, 64)
-- 213: PolyRegistersModel.dividesExactly(III)Z
def mj_l213_0 : List (Option mj_I) := [mj_o (.aload_n 0), mj_o (.iload_n 3), mj_q (.invokevirtual 114) 197 2 0 1630 10, mj_n, mj_n, mj_o (.istore 4), mj_n, mj_o (.aload_n 0), mj_o (.iload_n 1), mj_q (.invokevirtual 110) 198 2 0 1650 10, mj_n, mj_n, mj_o (.aload_n 0), mj_o (.iconst 3), mj_o (.iload_n 2), mj_q (.invokevirtual 124) 200 3 0 1667 10, mj_n, mj_n, mj_o (.aload_n 0), mj_o (.iconst 3), mj_q (.invokevirtual 114) 197 2 0 1630 10, mj_n, mj_n, mj_o (.istore 5), mj_n, mj_o (.iload 5), mj_n, mj_o (.iload 4), mj_n, mj_q (.if_icmp .lt 123) 152 0 0 0 0, mj_n, mj_n, mj_o (.aload_n 0), mj_o (.sipush 654), mj_n, mj_n, mj_o (.sipush 653), mj_n, mj_n, mj_o (.iconst 3), mj_o (.iload 5), mj_n, mj_q (.invokestatic 104) 196 2 0 1562 0, mj_n, mj_n, mj_o (.iload_n 3), mj_o (.iload 4), mj_n, mj_q (.invokestatic 104) 196 2 0 1562 0, mj_n, mj_n, mj_q (.invokevirtual 101) 191 5 0 1711 10, mj_n, mj_n, mj_o (.aload_n 0), mj_o (.sipush 653), mj_n, mj_n, mj_q (.invokevirtual 68) 178 2 0 1573 10, mj_n, mj_n, mj_q (.ifCond .eq 5) 66 0 0 0 0, mj_n, mj_n, mj_o (.iconst 0), mj_o .ireturn, mj_o (.aload_n 0), mj_o (.iload_n 1), mj_o (.iload 5), mj_n, mj_o (.iload 4), mj_n, mj_o .isub, mj_q (.invokestatic 104) 196 2 0 1562 0, mj_n, mj_n, mj_o (.sipush 654), mj_n, mj_n, mj_q (.invokevirtual 84) 182 3 0 1577 10, mj_n, mj_n, mj_o (.iconst 0), mj_o (.istore 6), mj_n, mj_o (.iload 6), mj_n, mj_o (.iload 4), mj_n, mj_q (.if_icmp .gt 57) 146 0 0 0 0, mj_n, mj_n, mj_o (.aload_n 0), mj_o (.sipush 652), mj_n, mj_n, mj_o (.sipush 654), mj_n, mj_n, mj_o (.iload_n 3), mj_o (.iload 6), mj_n, mj_q (.invokestatic 104) 196 2 0 1562 0, mj_n, mj_n, mj_q (.invokevirtual 117) 189 4 0 1654 10, mj_n, mj_n, mj_o (.aload_n 0), mj_o (.iconst 3), mj_o (.iload 5), mj_n, mj_o (.iload 4), mj_n, mj_o .isub, mj_o (.iload 6), mj_n, mj_o .iadd, mj_q (.invokestatic 104) 196 2 0 1562 0, mj_n]
def mj_l213_1 : List (Option mj_I) := [mj_n, mj_o (.iconst 3), mj_o (.iload 5), mj_n, mj_o (.iload 4), mj_n, mj_o .isub, mj_o (.iload 6), mj_n, mj_o .iadd, mj_q (.invokestatic 104) 196 2 0 1562 0, mj_n, mj_n, mj_o (.sipush 652), mj_n, mj_n, mj_o (.iconst (-1)), mj_q (.invokevirtual 107) 188 5 0 1569 10, mj_n, mj_n, mj_o (.iinc 6 1), mj_n, mj_n, mj_q (.goto (-58)) 85 0 0 0 0, mj_n, mj_n, mj_o (.iinc 5 (-1)), mj_n, mj_n, mj_q (.goto (-124)) 25 0 0 0 0, mj_n, mj_n, mj_o (.aload_n 0), mj_o (.iconst 3), mj_q (.invokevirtual 114) 197 2 0 1630 10, mj_n, mj_n, mj_q (.ifCond .ge 7) 164 0 0 0 0, mj_n, mj_n, mj_o (.iconst 1), mj_q (.goto 4) 165 0 0 0 0, mj_n, mj_n, mj_o (.iconst 0), mj_o .ireturn]
def mj_l213 : List (Option mj_I) := mj_l213_0 ++ (mj_l213_1)
def mj_m213 : mj_M := (⟨"PolyRegistersModel", "dividesExactly", "(III)Z"⟩, prog_12_method_40_code, 7, some FieldType.boolean, mj_look mj_l213, [], 1, 1757, 118, 1756, 70)
-- 214: PolyRegistersModel.simplifies(II)V
def mj_l214 : List (Option mj_I) := [mj_o (.aload_n 0), mj_o (.iconst 5), mj_o (.iload_n 2), mj_q (.invokevirtual 124) 200 3 0 1667 10, mj_n, mj_n, mj_o (.aload_n 0), mj_o (.bipush 6), mj_n, mj_o (.iload_n 2), mj_q (.invokevirtual 149) 206 3 0 1675 10, mj_n, mj_n, mj_o (.aload_n 0), mj_o (.iconst 4), mj_o (.iconst 5), mj_o (.bipush 6), mj_n, mj_q (.invokevirtual 152) 212 4 0 1722 10, mj_n, mj_n, mj_o (.aload_n 0), mj_o (.iconst 5), mj_o (.iload_n 2), mj_q (.invokevirtual 124) 200 3 0 1667 10, mj_n, mj_n, mj_o (.aload_n 0), mj_o (.iconst 5), mj_q (.invokevirtual 142) 210 2 0 1726 10, mj_n, mj_n, mj_o (.aload_n 0), mj_o (.iload_n 1), mj_o (.iconst 5), mj_o (.iconst 4), mj_q (.invokevirtual 155) 213 4 0 1754 10, mj_n, mj_n, mj_o (.istore_n 3), mj_o (.aload_n 0), mj_o (.iload_n 1), mj_q (.invokevirtual 142) 210 2 0 1726 10, mj_n, mj_n, mj_o .return_]
def mj_m214 : mj_M := (⟨"PolyRegistersModel", "simplifies", "(II)V"⟩, prog_12_method_41_code, 4, none, mj_look mj_l214, [], 1, 1753, 118, 1752, 69)
-- 215: PolyRegistersModel.valueAt(I)I
def mj_l215 : List (Option mj_I) := [mj_o (.aload_n 0), mj_o (.iload_n 1), mj_q (.invokevirtual 114) 197 2 0 1630 10, mj_n, mj_n, mj_o (.istore_n 2), mj_o (.aload_n 0), mj_o (.sipush 659), mj_n, mj_n, mj_o (.lconst 0), mj_q (.invokevirtual 45) 181 3 0 1478 10, mj_n, mj_n, mj_o (.aload_n 0), mj_o (.sipush 660), mj_n, mj_n, mj_o (.lconst 1), mj_q (.invokevirtual 45) 181 3 0 1478 10, mj_n, mj_n, mj_o (.iload_n 2), mj_q (.ifCond .ge 5) 28 0 0 0 0, mj_n, mj_n, mj_o (.iconst 0), mj_o .ireturn, mj_o (.aload_n 0), mj_o (.sipush 659), mj_n, mj_n, mj_o (.iload_n 1), mj_o (.iload_n 2), mj_q (.invokestatic 104) 196 2 0 1562 0, mj_n, mj_n, mj_q (.invokevirtual 84) 182 3 0 1577 10, mj_n, mj_n, mj_o (.iload_n 2), mj_o (.iconst 1), mj_o .isub, mj_o (.istore_n 3), mj_o (.iload_n 3), mj_q (.ifCond .lt 64) 109 0 0 0 0, mj_n, mj_n, mj_o (.aload_n 0), mj_o (.sipush 660), mj_n, mj_n, mj_o (.sipush 660), mj_n, mj_n, mj_o (.sipush 657), mj_n, mj_n, mj_q (.invokevirtual 117) 189 4 0 1654 10, mj_n, mj_n, mj_o (.aload_n 0), mj_o (.sipush 659), mj_n, mj_n, mj_o (.sipush 659), mj_n, mj_n, mj_o (.sipush 656), mj_n, mj_n, mj_q (.invokevirtual 117) 189 4 0 1654 10, mj_n, mj_n, mj_o (.aload_n 0), mj_o (.sipush 652), mj_n, mj_n, mj_o (.iload_n 1), mj_o (.iload_n 3), mj_q (.invokestatic 104) 196 2 0 1562 0, mj_n, mj_n, mj_o (.sipush 660), mj_n, mj_n, mj_q (.invokevirtual 117) 189 4 0 1654 10, mj_n, mj_n, mj_o (.aload_n 0), mj_o (.sipush 659), mj_n, mj_n, mj_o (.sipush 659), mj_n, mj_n, mj_o (.sipush 652), mj_n, mj_n, mj_o (.iconst 1), mj_q (.invokevirtual 107) 188 5 0 1569 10, mj_n, mj_n, mj_o (.iinc 3 (-1)), mj_n, mj_n, mj_q (.goto (-62)) 44 0 0 0 0, mj_n, mj_n, mj_o (.aload_n 0), mj_o (.sipush 659), mj_n, mj_n, mj_q (.invokevirtual 68) 178 2 0 1573 10, mj_n, mj_n, mj_o .ireturn]
def mj_m215 : mj_M := (⟨"PolyRegistersModel", "valueAt", "(I)I"⟩, prog_12_method_42_code, 4, some FieldType.int, mj_look mj_l215, [], 1, 1915, 118, 1914, 90)
-- 216: PolyRegistersModel.laysRow(I)V
def mj_l216 : List (Option mj_I) := [mj_o (.aload_n 0), mj_o (.bipush 9), mj_n, mj_o (.iload_n 1), mj_q (.invokevirtual 124) 200 3 0 1667 10, mj_n, mj_n, mj_o (.aload_n 0), mj_o (.iconst 1), mj_q (.putfield 159) 10 7 0 1490 0, mj_n, mj_n, mj_o (.aload_n 0), mj_o (.bipush 10), mj_n, mj_o (.iload_n 1), mj_q (.invokevirtual 149) 206 3 0 1675 10, mj_n, mj_n, mj_o (.aload_n 0), mj_o (.bipush 9), mj_n, mj_o (.aload_n 0), mj_q (.getfield 159) 10 7 0 1490 0, mj_n, mj_n, mj_o .iadd, mj_q (.invokevirtual 114) 197 2 0 1630 10, mj_n, mj_n, mj_q (.ifCond .lt 89) 119 0 0 0 0, mj_n, mj_n, mj_o (.aload_n 0), mj_o (.bipush 9), mj_n, mj_o (.aload_n 0), mj_q (.getfield 159) 10 7 0 1490 0, mj_n, mj_n, mj_o .iadd, mj_q (.invokevirtual 136) 209 2 0 1730 10, mj_n, mj_n, mj_o (.aload_n 0), mj_o .dup, mj_q (.getfield 159) 10 7 0 1490 0, mj_n, mj_n, mj_o (.iconst 1), mj_o .iadd, mj_q (.putfield 159) 10 7 0 1490 0, mj_n, mj_n, mj_o (.bipush 9), mj_n, mj_o (.aload_n 0), mj_q (.getfield 159) 10 7 0 1490 0, mj_n, mj_n, mj_o .iadd, mj_o (.iconst 1), mj_o .isub, mj_o (.istore_n 2), mj_o (.aload_n 0), mj_o (.iload_n 2), mj_o (.aload_n 0), mj_o (.iload_n 2), mj_q (.invokevirtual 114) 197 2 0 1630 10, mj_n, mj_n, mj_q (.invokestatic 104) 196 2 0 1562 0, mj_n, mj_n, mj_q (.invokevirtual 68) 178 2 0 1573 10, mj_n, mj_n, mj_o (.istore_n 3), mj_o (.aload_n 0), mj_o (.iconst 2), mj_o (.iconst 3), mj_o (.iload_n 2), mj_o (.iconst 1), mj_o .isub, mj_o (.iload_n 2), mj_q (.invokevirtual 145) 211 5 0 1695 10, mj_n, mj_n, mj_o (.istore 4), mj_n, mj_o (.aload_n 0), mj_o (.iload_n 2), mj_o (.iconst 1), mj_o .iadd, mj_o (.iconst 3), mj_q (.invokevirtual 124) 200 3 0 1667 10, mj_n, mj_n, mj_o (.iload_n 3), mj_q (.ifCond .gt 10) 109 0 0 0 0, mj_n, mj_n, mj_o (.iload 4), mj_n, mj_o (.iconst 2), mj_o .irem, mj_q (.ifCond .ne 10) 116 0 0 0 0, mj_n, mj_n, mj_o (.aload_n 0), mj_o (.iload_n 2), mj_o (.iconst 1), mj_o .iadd, mj_q (.invokevirtual 139) 208 2 0 1738 10, mj_n, mj_n, mj_q (.goto (-97)) 19 0 0 0 0, mj_n, mj_n, mj_o .return_]
def mj_m216 : mj_M := (⟨"PolyRegistersModel", "laysRow", "(I)V"⟩, prog_12_method_43_code, 5, none, mj_look mj_l216, [], 1, 1966, 118, 1965, 95)
-- 217: PolyRegistersModel.changesAt(I)I
def mj_l217 : List (Option mj_I) := [mj_o (.iconst 0), mj_o (.istore_n 2), mj_o (.iconst 0), mj_o (.istore_n 3), mj_o (.bipush 9), mj_n, mj_o (.istore 4), mj_n, mj_o (.iload 4), mj_n, mj_o (.bipush 9), mj_n, mj_o (.aload_n 0), mj_q (.getfield 159) 10 7 0 1490 0, mj_n, mj_n, mj_o .iadd, mj_q (.if_icmp .ge 82) 99 0 0 0 0, mj_n, mj_n, mj_o (.aload_n 0), mj_o (.iload 4), mj_n, mj_q (.invokevirtual 114) 197 2 0 1630 10, mj_n, mj_n, mj_o (.istore 5), mj_n, mj_o (.iload_n 1), mj_q (.ifCond .ne 12) 41 0 0 0 0, mj_n, mj_n, mj_o (.aload_n 0), mj_o (.iload 4), mj_n, mj_q (.invokevirtual 162) 215 2 0 1912 10, mj_n, mj_n, mj_q (.goto 32) 70 0 0 0 0, mj_n, mj_n, mj_o (.aload_n 0), mj_o (.iload 4), mj_n, mj_o (.iload 5), mj_n, mj_q (.invokestatic 104) 196 2 0 1562 0, mj_n, mj_n, mj_q (.invokevirtual 68) 178 2 0 1573 10, mj_n, mj_n, mj_o (.iload_n 1), mj_q (.ifCond .ge 15) 68 0 0 0 0, mj_n, mj_n, mj_o (.iload 5), mj_n, mj_o (.iconst 2), mj_o .irem, mj_o (.iconst 1), mj_q (.if_icmp .ne 7) 68 0 0 0 0, mj_n, mj_n, mj_o (.iconst (-1)), mj_q (.goto 4) 69 0 0 0 0, mj_n, mj_n, mj_o (.iconst 1), mj_o .imul, mj_o (.istore 6), mj_n, mj_o (.iload 6), mj_n, mj_q (.ifCond .ne 6) 80 0 0 0 0, mj_n, mj_n, mj_q (.goto 16) 93 0 0 0 0, mj_n, mj_n, mj_o (.iload_n 3), mj_o (.iload 6), mj_n, mj_o .imul, mj_q (.ifCond .ge 6) 90 0 0 0 0, mj_n, mj_n, mj_o (.iinc 2 1), mj_n, mj_n, mj_o (.iload 6), mj_n, mj_o (.istore_n 3), mj_o (.iinc 4 1), mj_n, mj_n, mj_q (.goto (-88)) 8 0 0 0 0, mj_n, mj_n, mj_o (.iload_n 2), mj_o .ireturn]
def mj_m217 : mj_M := (⟨"PolyRegistersModel", "changesAt", "(I)I"⟩, prog_12_method_44_code, 7, some FieldType.int, mj_look mj_l217, [], 1, 1974, 118, 1973, 97)
-- 218: PolyRegistersModel.rootsOf()I
def mj_l218 : List (Option mj_I) := [mj_o (.aload_n 0), mj_o (.iconst (-1)), mj_q (.invokevirtual 165) 217 2 0 1971 10, mj_n, mj_n, mj_o (.aload_n 0), mj_o (.iconst 1), mj_q (.invokevirtual 165) 217 2 0 1971 10, mj_n, mj_n, mj_o .isub, mj_o .ireturn]
def mj_m218 : mj_M := (⟨"PolyRegistersModel", "rootsOf", "()I"⟩, prog_12_method_45_code, 1, some FieldType.int, mj_look mj_l218, [], 1, 1970, 118, 1969, 96)
-- 219: PolyRegistersModel.laysStep()I
def mj_l219_0 : List (Option mj_I) := [mj_o (.aload_n 0), mj_o (.bipush 9), mj_n, mj_q (.invokevirtual 114) 197 2 0 1630 10, mj_n, mj_n, mj_o (.istore_n 1), mj_o (.aload_n 0), mj_o (.sipush 661), mj_n, mj_n, mj_o (.lconst 0), mj_q (.invokevirtual 45) 181 3 0 1478 10, mj_n, mj_n, mj_o (.iconst 0), mj_o (.istore_n 2), mj_o (.iload_n 2), mj_o (.iload_n 1), mj_q (.if_icmp .ge 38) 57 0 0 0 0, mj_n, mj_n, mj_o (.aload_n 0), mj_o (.bipush 9), mj_n, mj_o (.iload_n 2), mj_q (.invokestatic 104) 196 2 0 1562 0, mj_n, mj_n, mj_o (.sipush 661), mj_n, mj_n, mj_q (.invokevirtual 71) 184 3 0 1598 10, mj_n, mj_n, mj_q (.ifCond .le 16) 51 0 0 0 0, mj_n, mj_n, mj_o (.aload_n 0), mj_o (.sipush 661), mj_n, mj_n, mj_o (.bipush 9), mj_n, mj_o (.iload_n 2), mj_q (.invokestatic 104) 196 2 0 1562 0, mj_n, mj_n, mj_q (.invokevirtual 84) 182 3 0 1577 10, mj_n, mj_n, mj_o (.iinc 2 1), mj_n, mj_n, mj_q (.goto (-37)) 17 0 0 0 0, mj_n, mj_n, mj_o (.aload_n 0), mj_o (.sipush 653), mj_n, mj_n, mj_o (.sipush 654), mj_n, mj_n, mj_o (.sipush 661), mj_n, mj_n, mj_o (.bipush 9), mj_n, mj_o (.iload_n 1), mj_q (.invokestatic 104) 196 2 0 1562 0, mj_n, mj_n, mj_q (.invokevirtual 101) 191 5 0 1711 10, mj_n, mj_n, mj_o (.aload_n 0), mj_o (.sipush 653), mj_n, mj_n, mj_q (.invokevirtual 68) 178 2 0 1573 10, mj_n, mj_n, mj_q (.ifCond .ge 11) 94 0 0 0 0, mj_n, mj_n, mj_o (.aload_n 0), mj_q (.getfield 17) 10 4 0 1487 0, mj_n, mj_n, mj_q (.ldc 168) 458406 0 0 2004 0, mj_n, mj_o (.iconst 1), mj_o .iastore, mj_o (.aload_n 0), mj_o (.sipush 652), mj_n, mj_n, mj_q (.ldc2_w 169) 2 0 0 1765 0, mj_n, mj_n, mj_q (.invokevirtual 45) 181 3 0 1478 10, mj_n, mj_n, mj_o (.aload_n 0), mj_o (.sipush 653), mj_n, mj_n, mj_o (.sipush 653), mj_n, mj_n, mj_o (.sipush 652), mj_n, mj_n, mj_o (.iconst 1), mj_q (.invokevirtual 107) 188 5 0 1569 10, mj_n, mj_n, mj_o (.aload_n 0), mj_o (.sipush 653)]
def mj_l219_1 : List (Option mj_I) := [mj_n, mj_n, mj_o (.sipush 653), mj_n, mj_n, mj_o (.sipush 657), mj_n, mj_n, mj_q (.invokevirtual 117) 189 4 0 1654 10, mj_n, mj_n, mj_o (.aload_n 0), mj_o (.sipush 658), mj_n, mj_n, mj_o (.lconst 1), mj_q (.invokevirtual 45) 181 3 0 1478 10, mj_n, mj_n, mj_o (.iconst 0), mj_o (.istore_n 2), mj_o (.aload_n 0), mj_o (.sipush 658), mj_n, mj_n, mj_o (.sipush 653), mj_n, mj_n, mj_q (.invokevirtual 71) 184 3 0 1598 10, mj_n, mj_n, mj_q (.ifCond .ge 23) 174 0 0 0 0, mj_n, mj_n, mj_o (.aload_n 0), mj_o (.sipush 658), mj_n, mj_n, mj_o (.sipush 658), mj_n, mj_n, mj_o (.sipush 658), mj_n, mj_n, mj_o (.iconst 1), mj_q (.invokevirtual 107) 188 5 0 1569 10, mj_n, mj_n, mj_o (.iinc 2 1), mj_n, mj_n, mj_q (.goto (-30)) 141 0 0 0 0, mj_n, mj_n, mj_o (.iload_n 2), mj_o .ireturn]
def mj_l219 : List (Option mj_I) := mj_l219_0 ++ (mj_l219_1)
def mj_m219 : mj_M := (⟨"PolyRegistersModel", "laysStep", "()I"⟩, prog_12_method_46_code, 3, some FieldType.int, mj_look mj_l219, [], 1, 2003, 118, 2002, 100)
-- 220: PolyRegistersModel.closes(I)V
def mj_l220_0 : List (Option mj_I) := [mj_o (.aload_n 0), mj_o (.iconst (-1)), mj_q (.invokevirtual 165) 217 2 0 1971 10, mj_n, mj_n, mj_o (.istore_n 2), mj_o (.aload_n 0), mj_q (.invokevirtual 171) 219 1 0 2000 10, mj_n, mj_n, mj_o (.istore_n 3), mj_o (.aload_n 0), mj_o (.sipush 656), mj_n, mj_n, mj_o (.lconst 0), mj_q (.invokevirtual 45) 181 3 0 1478 10, mj_n, mj_n, mj_o (.aload_n 0), mj_o (.sipush 656), mj_n, mj_n, mj_o (.sipush 656), mj_n, mj_n, mj_o (.sipush 658), mj_n, mj_n, mj_o (.iconst (-1)), mj_q (.invokevirtual 107) 188 5 0 1569 10, mj_n, mj_n, mj_o (.aload_n 0), mj_o (.sipush 662), mj_n, mj_n, mj_q (.ldc2_w 169) 2 0 0 1765 0, mj_n, mj_n, mj_q (.invokevirtual 45) 181 3 0 1478 10, mj_n, mj_n, mj_o (.iconst 0), mj_o (.istore 4), mj_n, mj_o (.iload 4), mj_n, mj_o (.iload_n 3), mj_q (.if_icmp .gt 99) 148 0 0 0 0, mj_n, mj_n, mj_o (.aload_n 0), mj_o (.sipush 661), mj_n, mj_n, mj_o (.sipush 656), mj_n, mj_n, mj_q (.invokevirtual 84) 182 3 0 1577 10, mj_n, mj_n, mj_o (.aload_n 0), mj_o (.sipush 656), mj_n, mj_n, mj_o (.sipush 656), mj_n, mj_n, mj_o (.sipush 658), mj_n, mj_n, mj_o (.iconst 1), mj_q (.invokevirtual 107) 188 5 0 1569 10, mj_n, mj_n, mj_o (.aload_n 0), mj_o (.bipush 9), mj_n, mj_q (.invokevirtual 162) 215 2 0 1912 10, mj_n, mj_n, mj_q (.ifCond .ne 7) 89 0 0 0 0, mj_n, mj_n, mj_o (.iconst 1), mj_q (.goto 4) 90 0 0 0 0, mj_n, mj_n, mj_o (.iconst 0), mj_o (.istore 5), mj_n, mj_o (.iload_n 2), mj_o (.aload_n 0), mj_o (.iconst 0), mj_q (.invokevirtual 165) 217 2 0 1971 10, mj_n, mj_n, mj_o .isub, mj_o (.iload 5), mj_n, mj_o .isub, mj_o (.iload_n 1), mj_q (.if_icmp .le 13) 116 0 0 0 0, mj_n, mj_n, mj_o (.aload_n 0), mj_o (.sipush 656), mj_n, mj_n, mj_o (.sipush 661), mj_n, mj_n, mj_q (.invokevirtual 84) 182 3 0 1577 10, mj_n, mj_n, mj_o (.aload_n 0), mj_o (.sipush 653), mj_n, mj_n]
def mj_l220_1 : List (Option mj_I) := [mj_o (.sipush 654), mj_n, mj_n, mj_o (.sipush 658), mj_n, mj_n, mj_o (.sipush 662), mj_n, mj_n, mj_q (.invokevirtual 101) 191 5 0 1711 10, mj_n, mj_n, mj_o (.aload_n 0), mj_o (.sipush 658), mj_n, mj_n, mj_o (.sipush 653), mj_n, mj_n, mj_q (.invokevirtual 84) 182 3 0 1577 10, mj_n, mj_n, mj_o (.iinc 4 1), mj_n, mj_n, mj_q (.goto (-99)) 46 0 0 0 0, mj_n, mj_n, mj_o .return_]
def mj_l220 : List (Option mj_I) := mj_l220_0 ++ (mj_l220_1)
def mj_m220 : mj_M := (⟨"PolyRegistersModel", "closes", "(I)V"⟩, prog_12_method_47_code, 6, none, mj_look mj_l220, [], 1, 1999, 118, 1998, 99)
-- 221: PolyRegistersModel.tells(II)I
def mj_l221 : List (Option mj_I) := [mj_o (.aload_n 0), mj_o (.sipush 653), mj_n, mj_n, mj_o (.iload_n 1), mj_o (.iload_n 2), mj_q (.invokevirtual 127) 193 4 0 1707 10, mj_n, mj_n, mj_o (.aload_n 0), mj_o (.sipush 650), mj_n, mj_n, mj_o (.iload_n 1), mj_q (.invokevirtual 84) 182 3 0 1577 10, mj_n, mj_n, mj_o (.aload_n 0), mj_o (.sipush 651), mj_n, mj_n, mj_o (.iload_n 2), mj_q (.invokevirtual 84) 182 3 0 1577 10, mj_n, mj_n, mj_o (.aload_n 0), mj_o (.sipush 650), mj_n, mj_n, mj_q (.invokevirtual 68) 178 2 0 1573 10, mj_n, mj_n, mj_q (.ifCond .eq 13) 45 0 0 0 0, mj_n, mj_n, mj_o (.aload_n 0), mj_o (.sipush 650), mj_n, mj_n, mj_o (.sipush 653), mj_n, mj_n, mj_q (.invokevirtual 133) 194 3 0 1734 10, mj_n, mj_n, mj_o (.aload_n 0), mj_o (.sipush 651), mj_n, mj_n, mj_o (.sipush 653), mj_n, mj_n, mj_q (.invokevirtual 133) 194 3 0 1734 10, mj_n, mj_n, mj_o (.aload_n 0), mj_o (.sipush 650), mj_n, mj_n, mj_q (.invokevirtual 68) 178 2 0 1573 10, mj_n, mj_n, mj_o .ireturn]
def mj_m221 : mj_M := (⟨"PolyRegistersModel", "tells", "(II)I"⟩, prog_12_method_48_code, 3, some FieldType.int, mj_look mj_l221, [], 1, 1919, 118, 1918, 91)
-- 222: PolyRegistersModel.tellsWhole(I)I
def mj_l222 : List (Option mj_I) := [mj_o (.aload_n 0), mj_o (.sipush 650), mj_n, mj_n, mj_o (.iload_n 1), mj_q (.invokevirtual 84) 182 3 0 1577 10, mj_n, mj_n, mj_o (.aload_n 0), mj_o (.sipush 651), mj_n, mj_n, mj_o (.lconst 1), mj_q (.invokevirtual 45) 181 3 0 1478 10, mj_n, mj_n, mj_o (.aload_n 0), mj_o (.sipush 650), mj_n, mj_n, mj_q (.invokevirtual 68) 178 2 0 1573 10, mj_n, mj_n, mj_o .ireturn]
def mj_m222 : mj_M := (⟨"PolyRegistersModel", "tellsWhole", "(I)I"⟩, prog_12_method_49_code, 2, some FieldType.int, mj_look mj_l222, [], 1, 1894, 118, 1893, 88)
-- 223: PolyRegistersModel.isRegister(I)Z
def mj_l223 : List (Option mj_I) := [mj_o (.iload_n 0), mj_o .i2l, mj_o (.lconst 0), mj_q (.ldc2_w 175) 5 0 0 1550 0, mj_n, mj_n, mj_q (.invokestatic 177) 177 3 0 1551 0, mj_n, mj_n, mj_o .ireturn]
def mj_m223 : mj_M := (⟨"PolyRegistersModel", "isRegister", "(I)Z"⟩, prog_12_method_50_code, 1, some FieldType.boolean, mj_look mj_l223, [], 0, 1549, 118, 1548, 0)
-- 224: PolyRegistersModel.areRegisters(III)Z
def mj_l224 : List (Option mj_I) := [mj_o (.iload_n 0), mj_q (.invokestatic 181) 223 1 0 1547 0, mj_n, mj_n, mj_q (.ifCond .eq 21) 25 0 0 0 0, mj_n, mj_n, mj_o (.iload_n 1), mj_q (.invokestatic 181) 223 1 0 1547 0, mj_n, mj_n, mj_q (.ifCond .eq 14) 25 0 0 0 0, mj_n, mj_n, mj_o (.iload_n 2), mj_q (.invokestatic 181) 223 1 0 1547 0, mj_n, mj_n, mj_q (.ifCond .eq 7) 25 0 0 0 0, mj_n, mj_n, mj_o (.iconst 1), mj_q (.goto 4) 26 0 0 0 0, mj_n, mj_n, mj_o (.iconst 0), mj_o .ireturn]
def mj_m224 : mj_M := (⟨"PolyRegistersModel", "areRegisters", "(III)Z"⟩, prog_12_method_51_code, 3, some FieldType.boolean, mj_look mj_l224, [], 0, 1546, 118, 1545, 0)
-- 225: PolyRegistersModel.isZero(I)Z
def mj_l225 : List (Option mj_I) := [mj_o (.aload_n 0), mj_o (.iload_n 1), mj_q (.invokevirtual 185) 226 2 0 1691 10, mj_n, mj_n, mj_q (.ifCond .ge 7) 12 0 0 0 0, mj_n, mj_n, mj_o (.iconst 1), mj_q (.goto 4) 13 0 0 0 0, mj_n, mj_n, mj_o (.iconst 0), mj_o .ireturn]
def mj_m225 : mj_M := (⟨"PolyRegistersModel", "isZero", "(I)Z"⟩, prog_12_method_52_code, 2, some FieldType.boolean, mj_look mj_l225, [], 1, 1690, 118, 1689, 57)
-- 226: PolyRegistersModel.degreeIn(I)I
def mj_l226 : List (Option mj_I) := [mj_o (.bipush 12), mj_n, mj_o (.istore_n 2), mj_o (.iload_n 2), mj_q (.ifCond .lt 25) 29 0 0 0 0, mj_n, mj_n, mj_o (.aload_n 0), mj_q (.getfield 9) 10 0 0 1483 0, mj_n, mj_n, mj_o (.iload_n 1), mj_o (.bipush 13), mj_n, mj_o .imul, mj_o (.iload_n 2), mj_o .iadd, mj_o .laload, mj_o (.lconst 0), mj_o .lcmp, mj_q (.ifCond .ne 9) 29 0 0 0 0, mj_n, mj_n, mj_o (.iinc 2 (-1)), mj_n, mj_n, mj_q (.goto (-23)) 3 0 0 0 0, mj_n, mj_n, mj_o (.iload_n 2), mj_o .ireturn]
def mj_m226 : mj_M := (⟨"PolyRegistersModel", "degreeIn", "(I)I"⟩, prog_12_method_53_code, 3, some FieldType.int, mj_look mj_l226, [], 1, 1694, 118, 1693, 58)
-- 227: PolyRegistersModel.keeps()V
def mj_l227 : List (Option mj_I) := [mj_o (.aload_n 0), mj_q (.getfield 188) 10 2 0 1485 0, mj_n, mj_n, mj_o (.bipush 8), mj_n, mj_q (.if_icmp .ne 30) 36 0 0 0 0, mj_n, mj_n, mj_o (.aload_n 0), mj_q (.getfield 13) 10 1 0 1484 0, mj_n, mj_n, mj_o (.bipush 91), mj_n, mj_o (.aload_n 0), mj_q (.getfield 13) 10 1 0 1484 0, mj_n, mj_n, mj_o (.iconst 0), mj_o (.sipush 637), mj_n, mj_n, mj_q (.invokestatic 58) 0 0 4 1585 0, mj_n, mj_n, mj_o (.aload_n 0), mj_o .dup, mj_q (.getfield 188) 10 2 0 1485 0, mj_n, mj_n, mj_o (.iconst 1), mj_o .isub, mj_q (.putfield 188) 10 2 0 1485 0, mj_n, mj_n, mj_o (.aload_n 0), mj_q (.getfield 9) 10 0 0 1483 0, mj_n, mj_n, mj_o (.iconst 0), mj_o (.aload_n 0), mj_q (.getfield 13) 10 1 0 1484 0, mj_n, mj_n, mj_o (.aload_n 0), mj_q (.getfield 188) 10 2 0 1485 0, mj_n, mj_n, mj_o (.bipush 91), mj_n, mj_o .imul, mj_o (.bipush 91), mj_n, mj_q (.invokestatic 58) 0 0 4 1585 0, mj_n, mj_n, mj_o (.aload_n 0), mj_o .dup, mj_q (.getfield 188) 10 2 0 1485 0, mj_n, mj_n, mj_o (.iconst 1), mj_o .iadd, mj_q (.putfield 188) 10 2 0 1485 0, mj_n, mj_n, mj_o .return_]
def mj_m227 : mj_M := (⟨"PolyRegistersModel", "keeps", "()V"⟩, prog_12_method_54_code, 1, none, mj_look mj_l227, [], 1, 1621, 118, 1620, 46)
-- 228: PolyRegistersModel.stores(II)V
def mj_l228 : List (Option mj_I) := [mj_o (.iconst 0), mj_o (.istore_n 3), mj_o (.iload_n 3), mj_o (.bipush 13), mj_n, mj_q (.if_icmp .ge 29) 34 0 0 0 0, mj_n, mj_n, mj_o (.aload_n 0), mj_q (.getfield 9) 10 0 0 1483 0, mj_n, mj_n, mj_o (.iload_n 1), mj_o (.bipush 13), mj_n, mj_o .imul, mj_o (.iload_n 3), mj_o .iadd, mj_o (.aload_n 0), mj_o (.iload_n 2), mj_o (.iload_n 3), mj_q (.invokestatic 104) 196 2 0 1562 0, mj_n, mj_n, mj_q (.invokevirtual 191) 195 2 0 1626 10, mj_n, mj_n, mj_o .lastore, mj_o (.iinc 3 1), mj_n, mj_n, mj_q (.goto (-29)) 2 0 0 0 0, mj_n, mj_n, mj_o .return_]
def mj_m228 : mj_M := (⟨"PolyRegistersModel", "stores", "(II)V"⟩, prog_12_method_55_code, 4, none, mj_look mj_l228, [], 1, 1625, 118, 1624, 47)
-- 229: PolyRegistersModel.puts(III)I
def mj_l229 : List (Option mj_I) := [mj_o (.aload_n 0), mj_o (.iload_n 2), mj_q (.invokevirtual 195) 205 2 0 1614 10, mj_n, mj_n, mj_q (.ifCond .ne 9) 14 0 0 0 0, mj_n, mj_n, mj_o (.aload_n 0), mj_o (.iload_n 3), mj_q (.invokevirtual 198) 176 2 0 1554 10, mj_n, mj_n, mj_o .ireturn, mj_o (.aload_n 0), mj_q (.invokevirtual 201) 227 1 0 1618 10, mj_n, mj_n, mj_o (.aload_n 0), mj_o (.iload_n 1), mj_o (.iload_n 2), mj_q (.invokevirtual 204) 228 3 0 1622 10, mj_n, mj_n, mj_o (.aload_n 0), mj_o (.iload_n 2), mj_q (.invokevirtual 114) 197 2 0 1630 10, mj_n, mj_n, mj_o .ireturn]
def mj_m229 : mj_M := (⟨"PolyRegistersModel", "puts", "(III)I"⟩, prog_12_method_56_code, 4, some FieldType.int, mj_look mj_l229, [], 1, 1613, 118, 1612, 44)
-- 230: PolyRegistersModel.add(III)I
def mj_l230 : List (Option mj_I) := [mj_o (.aload_n 0), mj_o (.iload_n 1), mj_o (.iload_n 2), mj_o (.iload_n 3), mj_o (.iconst 1), mj_q (.invokevirtual 207) 232 5 0 1540 10, mj_n, mj_n, mj_o .ireturn]
def mj_m230 : mj_M := (⟨"PolyRegistersModel", "add", "(III)I"⟩, prog_12_method_57_code, 4, some FieldType.int, mj_look mj_l230, [], 1, 1539, 118, 1537, 1538)
-- 231: PolyRegistersModel.subtract(III)I
def mj_l231 : List (Option mj_I) := [mj_o (.aload_n 0), mj_o (.iload_n 1), mj_o (.iload_n 2), mj_o (.iload_n 3), mj_o (.iconst (-1)), mj_q (.invokevirtual 207) 232 5 0 1540 10, mj_n, mj_n, mj_o .ireturn]
def mj_m231 : mj_M := (⟨"PolyRegistersModel", "subtract", "(III)I"⟩, prog_12_method_58_code, 4, some FieldType.int, mj_look mj_l231, [], 1, 1637, 118, 1635, 1636)
-- 232: PolyRegistersModel.sums(IIII)I
def mj_l232 : List (Option mj_I) := [mj_o (.aload_n 0), mj_o (.iconst 0), mj_q (.putfield 49) 10 3 0 1486 0, mj_n, mj_n, mj_o (.iload_n 1), mj_o (.iload_n 2), mj_o (.iload_n 3), mj_q (.invokestatic 210) 224 3 0 1544 0, mj_n, mj_n, mj_q (.ifCond .ne 9) 20 0 0 0 0, mj_n, mj_n, mj_o (.aload_n 0), mj_o (.iconst 1), mj_q (.invokevirtual 198) 176 2 0 1554 10, mj_n, mj_n, mj_o .ireturn, mj_o (.aload_n 0), mj_o (.iconst 0), mj_o (.iload_n 2), mj_q (.invokevirtual 213) 199 3 0 1558 10, mj_n, mj_n, mj_o (.aload_n 0), mj_o (.iconst 1), mj_o (.iload_n 3), mj_q (.invokevirtual 213) 199 3 0 1558 10, mj_n, mj_n, mj_o (.aload_n 0), mj_o (.iconst 0), mj_o (.iconst 0), mj_o (.iconst 1), mj_o (.iload 4), mj_n, mj_q (.invokevirtual 216) 201 5 0 1565 10, mj_n, mj_n, mj_o (.aload_n 0), mj_o (.iload_n 1), mj_o (.iconst 0), mj_o (.iconst 2), mj_q (.invokevirtual 219) 229 4 0 1610 10, mj_n, mj_n, mj_o .ireturn]
def mj_m232 : mj_M := (⟨"PolyRegistersModel", "sums", "(IIII)I"⟩, prog_12_method_59_code, 5, some FieldType.int, mj_look mj_l232, [], 1, 1543, 118, 1542, 31)
-- 233: PolyRegistersModel.multiply(III)I
def mj_l233 : List (Option mj_I) := [mj_o (.aload_n 0), mj_o (.iconst 0), mj_q (.putfield 49) 10 3 0 1486 0, mj_n, mj_n, mj_o (.iload_n 1), mj_o (.iload_n 2), mj_o (.iload_n 3), mj_q (.invokestatic 210) 224 3 0 1544 0, mj_n, mj_n, mj_q (.ifCond .ne 9) 20 0 0 0 0, mj_n, mj_n, mj_o (.aload_n 0), mj_o (.iconst 1), mj_q (.invokevirtual 198) 176 2 0 1554 10, mj_n, mj_n, mj_o .ireturn, mj_o (.aload_n 0), mj_o (.iconst 0), mj_o (.iload_n 2), mj_q (.invokevirtual 213) 199 3 0 1558 10, mj_n, mj_n, mj_o (.aload_n 0), mj_o (.iconst 1), mj_o (.iload_n 3), mj_q (.invokevirtual 213) 199 3 0 1558 10, mj_n, mj_n, mj_o (.aload_n 0), mj_o (.iconst 0), mj_o (.iconst 1), mj_q (.invokevirtual 223) 203 3 0 1642 10, mj_n, mj_n, mj_q (.ifCond .eq 9) 47 0 0 0 0, mj_n, mj_n, mj_o (.aload_n 0), mj_o (.iconst 2), mj_q (.invokevirtual 198) 176 2 0 1554 10, mj_n, mj_n, mj_o .ireturn, mj_o (.aload_n 0), mj_o (.iconst 2), mj_o (.iconst 0), mj_o (.iconst 1), mj_q (.invokevirtual 121) 202 4 0 1646 10, mj_n, mj_n, mj_o (.aload_n 0), mj_o (.iload_n 1), mj_o (.iconst 2), mj_o (.iconst 2), mj_q (.invokevirtual 219) 229 4 0 1610 10, mj_n, mj_n, mj_o .ireturn]
def mj_m233 : mj_M := (⟨"PolyRegistersModel", "multiply", "(III)I"⟩, prog_12_method_60_code, 4, some FieldType.int, mj_look mj_l233, [], 1, 1641, 118, 1639, 1640)
-- 234: PolyRegistersModel.power(III)I
def mj_l234 : List (Option mj_I) := [mj_o (.aload_n 0), mj_o (.iconst 0), mj_q (.putfield 49) 10 3 0 1486 0, mj_n, mj_n, mj_o (.iload_n 1), mj_o (.iload_n 2), mj_o (.iload_n 2), mj_q (.invokestatic 210) 224 3 0 1544 0, mj_n, mj_n, mj_q (.ifCond .ne 9) 20 0 0 0 0, mj_n, mj_n, mj_o (.aload_n 0), mj_o (.iconst 1), mj_q (.invokevirtual 198) 176 2 0 1554 10, mj_n, mj_n, mj_o .ireturn, mj_o (.iload_n 3), mj_o .i2l, mj_o (.lconst 0), mj_q (.ldc2_w 227) 12 0 0 1662 0, mj_n, mj_n, mj_q (.invokestatic 177) 177 3 0 1551 0, mj_n, mj_n, mj_q (.ifCond .ne 9) 38 0 0 0 0, mj_n, mj_n, mj_o (.aload_n 0), mj_o (.iconst 2), mj_q (.invokevirtual 198) 176 2 0 1554 10, mj_n, mj_n, mj_o .ireturn, mj_o (.aload_n 0), mj_o (.iconst 0), mj_o (.iload_n 2), mj_q (.invokevirtual 213) 199 3 0 1558 10, mj_n, mj_n, mj_o (.aload_n 0), mj_o (.iconst 1), mj_o (.iconst 0), mj_o (.iload_n 3), mj_q (.invokevirtual 229) 204 4 0 1663 10, mj_n, mj_n, mj_q (.ifCond .eq 13) 64 0 0 0 0, mj_n, mj_n, mj_o (.aload_n 0), mj_o (.iload_n 1), mj_o (.iconst 1), mj_o (.iconst 3), mj_q (.invokevirtual 219) 229 4 0 1610 10, mj_n, mj_n, mj_q (.goto 8) 69 0 0 0 0, mj_n, mj_n, mj_o (.aload_n 0), mj_o (.iconst 3), mj_q (.invokevirtual 198) 176 2 0 1554 10, mj_n, mj_n, mj_o .ireturn]
def mj_m234 : mj_M := (⟨"PolyRegistersModel", "power", "(III)I"⟩, prog_12_method_61_code, 4, some FieldType.int, mj_look mj_l234, [], 1, 1661, 118, 1659, 1660)
end
section
-- 235: PolyRegistersModel.derive(II)I
def mj_l235 : List (Option mj_I) := [mj_o (.aload_n 0), mj_o (.iconst 0), mj_q (.putfield 49) 10 3 0 1486 0, mj_n, mj_n, mj_o (.iload_n 1), mj_o (.iload_n 2), mj_o (.iload_n 2), mj_q (.invokestatic 210) 224 3 0 1544 0, mj_n, mj_n, mj_q (.ifCond .ne 9) 20 0 0 0 0, mj_n, mj_n, mj_o (.aload_n 0), mj_o (.iconst 1), mj_q (.invokevirtual 198) 176 2 0 1554 10, mj_n, mj_n, mj_o .ireturn, mj_o (.aload_n 0), mj_o (.iconst 0), mj_o (.iload_n 2), mj_q (.invokevirtual 213) 199 3 0 1558 10, mj_n, mj_n, mj_o (.aload_n 0), mj_o (.iconst 1), mj_o (.iconst 0), mj_q (.invokevirtual 149) 206 3 0 1675 10, mj_n, mj_n, mj_o (.aload_n 0), mj_o (.iload_n 1), mj_o (.iconst 1), mj_o (.iconst 2), mj_q (.invokevirtual 219) 229 4 0 1610 10, mj_n, mj_n, mj_o .ireturn]
def mj_m235 : mj_M := (⟨"PolyRegistersModel", "derive", "(II)I"⟩, prog_12_method_62_code, 3, some FieldType.int, mj_look mj_l235, [], 1, 1674, 118, 1672, 1673)
-- 236: PolyRegistersModel.substitute(III)I
def mj_l236_0 : List (Option mj_I) := [mj_o (.aload_n 0), mj_o (.iconst 0), mj_q (.putfield 49) 10 3 0 1486 0, mj_n, mj_n, mj_o (.iload_n 1), mj_o (.iload_n 2), mj_o (.iload_n 3), mj_q (.invokestatic 210) 224 3 0 1544 0, mj_n, mj_n, mj_q (.ifCond .ne 9) 20 0 0 0 0, mj_n, mj_n, mj_o (.aload_n 0), mj_o (.iconst 1), mj_q (.invokevirtual 198) 176 2 0 1554 10, mj_n, mj_n, mj_o .ireturn, mj_o (.aload_n 0), mj_o (.iconst 0), mj_o (.iload_n 2), mj_q (.invokevirtual 213) 199 3 0 1558 10, mj_n, mj_n, mj_o (.aload_n 0), mj_o (.iconst 1), mj_o (.iload_n 3), mj_q (.invokevirtual 213) 199 3 0 1558 10, mj_n, mj_n, mj_o (.aload_n 0), mj_o (.iconst 1), mj_q (.invokevirtual 114) 197 2 0 1630 10, mj_n, mj_n, mj_q (.ifCond .le 25) 62 0 0 0 0, mj_n, mj_n, mj_o (.aload_n 0), mj_o (.iconst 0), mj_q (.invokevirtual 114) 197 2 0 1630 10, mj_n, mj_n, mj_o (.aload_n 0), mj_o (.iconst 1), mj_q (.invokevirtual 114) 197 2 0 1630 10, mj_n, mj_n, mj_o .imul, mj_o (.bipush 12), mj_n, mj_q (.if_icmp .le 9) 62 0 0 0 0, mj_n, mj_n, mj_o (.aload_n 0), mj_o (.iconst 2), mj_q (.invokevirtual 198) 176 2 0 1554 10, mj_n, mj_n, mj_o .ireturn, mj_o (.aload_n 0), mj_o (.iconst 2), mj_q (.invokevirtual 110) 198 2 0 1650 10, mj_n, mj_n, mj_o (.aload_n 0), mj_o (.iconst 0), mj_q (.invokevirtual 114) 197 2 0 1630 10, mj_n, mj_n, mj_o (.istore 4), mj_n, mj_o (.iload 4), mj_n, mj_q (.ifCond .lt 45) 121 0 0 0 0, mj_n, mj_n, mj_o (.aload_n 0), mj_o (.bipush 7), mj_n, mj_o (.iconst 2), mj_o (.iconst 1), mj_q (.invokevirtual 121) 202 4 0 1646 10, mj_n, mj_n, mj_o (.aload_n 0), mj_o (.iconst 2), mj_o (.bipush 7), mj_n, mj_q (.invokevirtual 124) 200 3 0 1667 10, mj_n, mj_n, mj_o (.aload_n 0), mj_o (.iconst 2), mj_o (.iconst 0), mj_q (.invokestatic 104) 196 2 0 1562 0, mj_n, mj_n, mj_o (.iconst 2), mj_o (.iconst 0), mj_q (.invokestatic 104) 196 2 0 1562 0, mj_n, mj_n, mj_o (.iconst 0), mj_o (.iload 4), mj_n, mj_q (.invokestatic 104) 196 2 0 1562 0, mj_n, mj_n, mj_o (.iconst 1), mj_q (.invokevirtual 107) 188 5 0 1569 10, mj_n, mj_n, mj_o (.iinc 4 (-1)), mj_n, mj_n, mj_q (.goto (-44)) 74 0 0 0 0, mj_n]
def mj_l236_1 : List (Option mj_I) := [mj_n, mj_o (.aload_n 0), mj_o (.iload_n 1), mj_o (.iconst 2), mj_o (.iconst 2), mj_q (.invokevirtual 219) 229 4 0 1610 10, mj_n, mj_n, mj_o .ireturn]
def mj_l236 : List (Option mj_I) := mj_l236_0 ++ (mj_l236_1)
def mj_m236 : mj_M := (⟨"PolyRegistersModel", "substitute", "(III)I"⟩, prog_12_method_63_code, 5, some FieldType.int, mj_look mj_l236, [], 1, 1682, 118, 1680, 1681)
-- 237: PolyRegistersModel.divide(IIII)I
def mj_l237 : List (Option mj_I) := [mj_o (.aload_n 0), mj_o (.iconst 0), mj_q (.putfield 49) 10 3 0 1486 0, mj_n, mj_n, mj_o (.iload_n 1), mj_o (.iload_n 2), mj_o (.iload_n 3), mj_q (.invokestatic 210) 224 3 0 1544 0, mj_n, mj_n, mj_q (.ifCond .eq 11) 22 0 0 0 0, mj_n, mj_n, mj_o (.iload 4), mj_n, mj_q (.invokestatic 181) 223 1 0 1547 0, mj_n, mj_n, mj_q (.ifCond .ne 9) 28 0 0 0 0, mj_n, mj_n, mj_o (.aload_n 0), mj_o (.iconst 1), mj_q (.invokevirtual 198) 176 2 0 1554 10, mj_n, mj_n, mj_o .ireturn, mj_o (.iload_n 1), mj_o (.iload_n 2), mj_q (.if_icmp .ne 9) 39 0 0 0 0, mj_n, mj_n, mj_o (.aload_n 0), mj_o (.iconst 2), mj_q (.invokevirtual 198) 176 2 0 1554 10, mj_n, mj_n, mj_o .ireturn, mj_o (.aload_n 0), mj_o (.iload 4), mj_n, mj_q (.invokevirtual 232) 225 2 0 1687 10, mj_n, mj_n, mj_q (.ifCond .eq 9) 54 0 0 0 0, mj_n, mj_n, mj_o (.aload_n 0), mj_o (.iconst 3), mj_q (.invokevirtual 198) 176 2 0 1554 10, mj_n, mj_n, mj_o .ireturn, mj_o (.aload_n 0), mj_o (.iconst 0), mj_o (.iload_n 3), mj_q (.invokevirtual 213) 199 3 0 1558 10, mj_n, mj_n, mj_o (.aload_n 0), mj_o (.iconst 1), mj_o (.iload 4), mj_n, mj_q (.invokevirtual 213) 199 3 0 1558 10, mj_n, mj_n, mj_o (.aload_n 0), mj_o (.iconst 2), mj_o (.iconst 3), mj_o (.iconst 0), mj_o (.iconst 1), mj_q (.invokevirtual 145) 211 5 0 1695 10, mj_n, mj_n, mj_o (.istore 5), mj_n, mj_o (.aload_n 0), mj_o (.iconst 2), mj_q (.invokevirtual 195) 205 2 0 1614 10, mj_n, mj_n, mj_q (.ifCond .eq 11) 93 0 0 0 0, mj_n, mj_n, mj_o (.aload_n 0), mj_o (.iconst 3), mj_q (.invokevirtual 195) 205 2 0 1614 10, mj_n, mj_n, mj_q (.ifCond .ne 9) 99 0 0 0 0, mj_n, mj_n, mj_o (.aload_n 0), mj_o (.iconst 4), mj_q (.invokevirtual 198) 176 2 0 1554 10, mj_n, mj_n, mj_o .ireturn, mj_o (.aload_n 0), mj_q (.invokevirtual 201) 227 1 0 1618 10, mj_n, mj_n, mj_o (.aload_n 0), mj_o (.iload_n 1), mj_o (.iconst 2), mj_q (.invokevirtual 204) 228 3 0 1622 10, mj_n, mj_n, mj_o (.aload_n 0), mj_o (.iload_n 2), mj_o (.iconst 3), mj_q (.invokevirtual 204) 228 3 0 1622 10, mj_n, mj_n, mj_o (.iload 5), mj_n, mj_o .ireturn]
def mj_m237 : mj_M := (⟨"PolyRegistersModel", "divide", "(IIII)I"⟩, prog_12_method_64_code, 6, some FieldType.int, mj_look mj_l237, [], 1, 1686, 118, 1684, 1685)
-- 238: PolyRegistersModel.gcd(III)I
def mj_l238 : List (Option mj_I) := [mj_o (.aload_n 0), mj_o (.iconst 0), mj_q (.putfield 49) 10 3 0 1486 0, mj_n, mj_n, mj_o (.iload_n 1), mj_o (.iload_n 2), mj_o (.iload_n 3), mj_q (.invokestatic 210) 224 3 0 1544 0, mj_n, mj_n, mj_q (.ifCond .ne 9) 20 0 0 0 0, mj_n, mj_n, mj_o (.aload_n 0), mj_o (.iconst 1), mj_q (.invokevirtual 198) 176 2 0 1554 10, mj_n, mj_n, mj_o .ireturn, mj_o (.aload_n 0), mj_o (.iconst 5), mj_o (.iload_n 2), mj_q (.invokevirtual 213) 199 3 0 1558 10, mj_n, mj_n, mj_o (.aload_n 0), mj_o (.bipush 6), mj_n, mj_o (.iload_n 3), mj_q (.invokevirtual 213) 199 3 0 1558 10, mj_n, mj_n, mj_o (.aload_n 0), mj_o (.sipush 661), mj_n, mj_n, mj_o (.iconst 5), mj_q (.invokevirtual 130) 207 3 0 1703 10, mj_n, mj_n, mj_o (.aload_n 0), mj_o (.sipush 662), mj_n, mj_n, mj_o (.bipush 6), mj_n, mj_q (.invokevirtual 130) 207 3 0 1703 10, mj_n, mj_n, mj_o (.aload_n 0), mj_o (.sipush 656), mj_n, mj_n, mj_o (.sipush 661), mj_n, mj_n, mj_o (.sipush 662), mj_n, mj_n, mj_q (.invokevirtual 127) 193 4 0 1707 10, mj_n, mj_n, mj_o (.aload_n 0), mj_o (.iconst 4), mj_o (.iconst 5), mj_o (.bipush 6), mj_n, mj_q (.invokevirtual 152) 212 4 0 1722 10, mj_n, mj_n, mj_o (.iconst 0), mj_o (.istore 4), mj_n, mj_o (.iload 4), mj_n, mj_o (.bipush 13), mj_n, mj_q (.if_icmp .ge 28) 106 0 0 0 0, mj_n, mj_n, mj_o (.aload_n 0), mj_o (.iconst 4), mj_o (.iload 4), mj_n, mj_q (.invokestatic 104) 196 2 0 1562 0, mj_n, mj_n, mj_o (.iconst 4), mj_o (.iload 4), mj_n, mj_q (.invokestatic 104) 196 2 0 1562 0, mj_n, mj_n, mj_o (.sipush 656), mj_n, mj_n, mj_q (.invokevirtual 117) 189 4 0 1654 10, mj_n, mj_n, mj_o (.iinc 4 1), mj_n, mj_n, mj_q (.goto (-29)) 74 0 0 0 0, mj_n, mj_n, mj_o (.aload_n 0), mj_o (.iload_n 1), mj_o (.iconst 4), mj_o (.iconst 2), mj_q (.invokevirtual 219) 229 4 0 1610 10, mj_n, mj_n, mj_o .ireturn]
def mj_m238 : mj_M := (⟨"PolyRegistersModel", "gcd", "(III)I"⟩, prog_12_method_65_code, 5, some FieldType.int, mj_look mj_l238, [], 1, 1702, 118, 1700, 1701)
-- 239: PolyRegistersModel.primitive(II)I
def mj_l239 : List (Option mj_I) := [mj_o (.aload_n 0), mj_o (.iconst 0), mj_q (.putfield 49) 10 3 0 1486 0, mj_n, mj_n, mj_o (.iload_n 1), mj_o (.iload_n 2), mj_o (.iload_n 2), mj_q (.invokestatic 210) 224 3 0 1544 0, mj_n, mj_n, mj_q (.ifCond .ne 9) 20 0 0 0 0, mj_n, mj_n, mj_o (.aload_n 0), mj_o (.iconst 1), mj_q (.invokevirtual 198) 176 2 0 1554 10, mj_n, mj_n, mj_o .ireturn, mj_o (.aload_n 0), mj_o (.iconst 0), mj_o (.iload_n 2), mj_q (.invokevirtual 213) 199 3 0 1558 10, mj_n, mj_n, mj_o (.aload_n 0), mj_o (.iconst 0), mj_q (.invokevirtual 142) 210 2 0 1726 10, mj_n, mj_n, mj_o (.aload_n 0), mj_o (.iload_n 1), mj_o (.iconst 0), mj_o (.iconst 2), mj_q (.invokevirtual 219) 229 4 0 1610 10, mj_n, mj_n, mj_o .ireturn]
def mj_m239 : mj_M := (⟨"PolyRegistersModel", "primitive", "(II)I"⟩, prog_12_method_66_code, 3, some FieldType.int, mj_look mj_l239, [], 1, 1745, 118, 1743, 1744)
-- 240: PolyRegistersModel.simple(II)I
def mj_l240 : List (Option mj_I) := [mj_o (.aload_n 0), mj_o (.iconst 0), mj_q (.putfield 49) 10 3 0 1486 0, mj_n, mj_n, mj_o (.iload_n 1), mj_o (.iload_n 2), mj_o (.iload_n 2), mj_q (.invokestatic 210) 224 3 0 1544 0, mj_n, mj_n, mj_q (.ifCond .ne 9) 20 0 0 0 0, mj_n, mj_n, mj_o (.aload_n 0), mj_o (.iconst 1), mj_q (.invokevirtual 198) 176 2 0 1554 10, mj_n, mj_n, mj_o .ireturn, mj_o (.aload_n 0), mj_o (.iload_n 2), mj_q (.invokevirtual 232) 225 2 0 1687 10, mj_n, mj_n, mj_q (.ifCond .eq 9) 34 0 0 0 0, mj_n, mj_n, mj_o (.aload_n 0), mj_o (.iconst 2), mj_q (.invokevirtual 198) 176 2 0 1554 10, mj_n, mj_n, mj_o .ireturn, mj_o (.aload_n 0), mj_o (.iconst 0), mj_o (.iload_n 2), mj_q (.invokevirtual 213) 199 3 0 1558 10, mj_n, mj_n, mj_o (.aload_n 0), mj_o (.bipush 8), mj_n, mj_o (.iconst 0), mj_q (.invokevirtual 235) 214 3 0 1750 10, mj_n, mj_n, mj_o (.aload_n 0), mj_o (.iload_n 1), mj_o (.bipush 8), mj_n, mj_o (.iconst 3), mj_q (.invokevirtual 219) 229 4 0 1610 10, mj_n, mj_n, mj_o .ireturn]
def mj_m240 : mj_M := (⟨"PolyRegistersModel", "simple", "(II)I"⟩, prog_12_method_67_code, 3, some FieldType.int, mj_look mj_l240, [], 1, 1749, 118, 1747, 1748)
-- 241: PolyRegistersModel.isPrime(I)Z
def mj_l241 : List (Option mj_I) := [mj_o (.iload_n 0), mj_o .i2l, mj_q (.ldc2_w 169) 2 0 0 1765 0, mj_n, mj_n, mj_q (.ldc2_w 238) 97 0 0 1766 0, mj_n, mj_n, mj_q (.invokestatic 177) 177 3 0 1551 0, mj_n, mj_n, mj_o (.istore_n 1), mj_o (.iconst 2), mj_o (.istore_n 2), mj_o (.iload_n 2), mj_o (.iload_n 0), mj_q (.if_icmp .ge 25) 41 0 0 0 0, mj_n, mj_n, mj_o (.iload_n 1), mj_q (.ifCond .eq 21) 41 0 0 0 0, mj_n, mj_n, mj_o (.iload_n 0), mj_o (.iload_n 2), mj_o .irem, mj_q (.ifCond .eq 7) 33 0 0 0 0, mj_n, mj_n, mj_o (.iconst 1), mj_q (.goto 4) 34 0 0 0 0, mj_n, mj_n, mj_o (.iconst 0), mj_o (.istore_n 1), mj_o (.iinc 2 1), mj_n, mj_n, mj_q (.goto (-24)) 14 0 0 0 0, mj_n, mj_n, mj_o (.iload_n 1), mj_o .ireturn]
def mj_m241 : mj_M := (⟨"PolyRegistersModel", "isPrime", "(I)Z"⟩, prog_12_method_68_code, 3, some FieldType.boolean, mj_look mj_l241, [], 0, 1764, 118, 1763, 0)
-- 242: PolyRegistersModel.rest(III)J
def mj_l242 : List (Option mj_I) := [mj_o (.aload_n 0), mj_q (.getfield 9) 10 0 0 1483 0, mj_n, mj_n, mj_o (.iload_n 1), mj_o (.bipush 13), mj_n, mj_o .imul, mj_o (.iload_n 2), mj_o .iadd, mj_o .laload, mj_o (.iload_n 3), mj_o .i2l, mj_o .lrem, mj_o (.lstore 4), mj_n, mj_o (.lload 4), mj_n, mj_o (.lconst 0), mj_o .lcmp, mj_q (.ifCond .ge 11) 31 0 0 0 0, mj_n, mj_n, mj_o (.lload 4), mj_n, mj_o (.iload_n 3), mj_o .i2l, mj_o .ladd, mj_q (.goto 5) 33 0 0 0 0, mj_n, mj_n, mj_o (.lload 4), mj_n, mj_o .lreturn]
def mj_m242 : mj_M := (⟨"PolyRegistersModel", "rest", "(III)J"⟩, prog_12_method_69_code, 6, some FieldType.long, mj_look mj_l242, [], 1, 1770, 118, 1769, 71)
-- 243: PolyRegistersModel.residue(III)I
def mj_l243 : List (Option mj_I) := [mj_o (.aload_n 0), mj_o (.iconst 0), mj_q (.putfield 49) 10 3 0 1486 0, mj_n, mj_n, mj_o (.iload_n 1), mj_o (.iload_n 2), mj_o (.iload_n 2), mj_q (.invokestatic 210) 224 3 0 1544 0, mj_n, mj_n, mj_q (.ifCond .ne 9) 20 0 0 0 0, mj_n, mj_n, mj_o (.aload_n 0), mj_o (.iconst 1), mj_q (.invokevirtual 198) 176 2 0 1554 10, mj_n, mj_n, mj_o .ireturn, mj_o (.iload_n 3), mj_q (.invokestatic 240) 241 1 0 1762 0, mj_n, mj_n, mj_q (.ifCond .ne 9) 33 0 0 0 0, mj_n, mj_n, mj_o (.aload_n 0), mj_o (.iconst 2), mj_q (.invokevirtual 198) 176 2 0 1554 10, mj_n, mj_n, mj_o .ireturn, mj_o (.aload_n 0), mj_q (.invokevirtual 201) 227 1 0 1618 10, mj_n, mj_n, mj_o (.iconst 0), mj_o (.istore 4), mj_n, mj_o (.iload 4), mj_n, mj_o (.bipush 13), mj_n, mj_q (.if_icmp .ge 29) 73 0 0 0 0, mj_n, mj_n, mj_o (.aload_n 0), mj_q (.getfield 9) 10 0 0 1483 0, mj_n, mj_n, mj_o (.iload_n 1), mj_o (.bipush 13), mj_n, mj_o .imul, mj_o (.iload 4), mj_n, mj_o .iadd, mj_o (.aload_n 0), mj_o (.iload_n 2), mj_o (.iload 4), mj_n, mj_o (.iload_n 3), mj_q (.invokevirtual 243) 242 4 0 1767 10, mj_n, mj_n, mj_o .lastore, mj_o (.iinc 4 1), mj_n, mj_n, mj_q (.goto (-30)) 40 0 0 0 0, mj_n, mj_n, mj_o (.aload_n 0), mj_o (.iload_n 1), mj_q (.invokevirtual 185) 226 2 0 1691 10, mj_n, mj_n, mj_o .ireturn]
def mj_m243 : mj_M := (⟨"PolyRegistersModel", "residue", "(III)I"⟩, prog_12_method_70_code, 5, some FieldType.int, mj_look mj_l243, [], 1, 1761, 118, 1759, 1760)
-- 244: PolyRegistersModel.setTerm(IIJ)I
def mj_l244 : List (Option mj_I) := [mj_o (.aload_n 0), mj_o (.iconst 0), mj_q (.putfield 49) 10 3 0 1486 0, mj_n, mj_n, mj_o (.iload_n 1), mj_q (.invokestatic 181) 223 1 0 1547 0, mj_n, mj_n, mj_q (.ifCond .ne 9) 18 0 0 0 0, mj_n, mj_n, mj_o (.aload_n 0), mj_o (.iconst 1), mj_q (.invokevirtual 198) 176 2 0 1554 10, mj_n, mj_n, mj_o .ireturn, mj_o (.iload_n 2), mj_o .i2l, mj_o (.lconst 0), mj_q (.ldc2_w 227) 12 0 0 1662 0, mj_n, mj_n, mj_q (.invokestatic 177) 177 3 0 1551 0, mj_n, mj_n, mj_q (.ifCond .ne 9) 36 0 0 0 0, mj_n, mj_n, mj_o (.aload_n 0), mj_o (.iconst 2), mj_q (.invokevirtual 198) 176 2 0 1554 10, mj_n, mj_n, mj_o .ireturn, mj_o (.lload_n 3), mj_q (.ldc2_w 247) 17446744073709551617 0 0 1775 0, mj_n, mj_n, mj_q (.ldc2_w 249) 999999999999999999 0 0 1776 0, mj_n, mj_n, mj_q (.invokestatic 177) 177 3 0 1551 0, mj_n, mj_n, mj_q (.ifCond .ne 9) 55 0 0 0 0, mj_n, mj_n, mj_o (.aload_n 0), mj_o (.iconst 3), mj_q (.invokevirtual 198) 176 2 0 1554 10, mj_n, mj_n, mj_o .ireturn, mj_o (.aload_n 0), mj_q (.invokevirtual 201) 227 1 0 1618 10, mj_n, mj_n, mj_o (.aload_n 0), mj_q (.getfield 9) 10 0 0 1483 0, mj_n, mj_n, mj_o (.iload_n 1), mj_o (.bipush 13), mj_n, mj_o .imul, mj_o (.iload_n 2), mj_o .iadd, mj_o (.lload_n 3), mj_o .lastore, mj_o (.aload_n 0), mj_o (.iload_n 1), mj_q (.invokevirtual 185) 226 2 0 1691 10, mj_n, mj_n, mj_o .ireturn]
def mj_m244 : mj_M := (⟨"PolyRegistersModel", "setTerm", "(IIJ)I"⟩, prog_12_method_71_code, 5, some FieldType.int, mj_look mj_l244, [], 1, 1774, 118, 1772, 1773)
-- 245: PolyRegistersModel.read(I)I
def mj_l245 : List (Option mj_I) := [mj_o (.aload_n 0), mj_o (.iconst 0), mj_q (.putfield 49) 10 3 0 1486 0, mj_n, mj_n, mj_o (.iload_n 1), mj_q (.invokestatic 181) 223 1 0 1547 0, mj_n, mj_n, mj_q (.ifCond .ne 9) 18 0 0 0 0, mj_n, mj_n, mj_o (.aload_n 0), mj_o (.iconst 1), mj_q (.invokevirtual 198) 176 2 0 1554 10, mj_n, mj_n, mj_o .ireturn, mj_o (.aload_n 0), mj_o (.iconst 0), mj_q (.putfield 251) 10 10 0 1493 0, mj_n, mj_n, mj_o (.aload_n 0), mj_o (.iconst 0), mj_q (.putfield 254) 10 11 0 1494 0, mj_n, mj_n, mj_o (.aload_n 0), mj_o (.iconst (-1)), mj_q (.putfield 30) 10 12 0 1495 0, mj_n, mj_n, mj_o (.aload_n 0), mj_q (.invokevirtual 257) 293 1 0 1781 10, mj_n, mj_n, mj_q (.ifCond .eq 14) 51 0 0 0 0, mj_n, mj_n, mj_o (.aload_n 0), mj_q (.invokevirtual 261) 292 1 0 1816 10, mj_n, mj_n, mj_q (.ifCond .eq 7) 51 0 0 0 0, mj_n, mj_n, mj_o (.iconst 1), mj_q (.goto 4) 52 0 0 0 0, mj_n, mj_n, mj_o (.iconst 0), mj_o (.istore_n 2), mj_o (.iload_n 2), mj_q (.ifCond .eq 19) 73 0 0 0 0, mj_n, mj_n, mj_o (.aload_n 0), mj_o (.iconst 0), mj_q (.putfield 251) 10 10 0 1493 0, mj_n, mj_n, mj_o (.aload_n 0), mj_o (.iconst 0), mj_q (.putfield 264) 10 13 2 1496 0, mj_n, mj_n, mj_o (.aload_n 0), mj_o (.bipush 23), mj_n, mj_q (.invokevirtual 268) 299 2 0 1820 10, mj_n, mj_n, mj_o (.aload_n 0), mj_o (.iconst 0), mj_q (.putfield 271) 10 9 0 1492 0, mj_n, mj_n, mj_o (.iload_n 2), mj_q (.ifCond .ne 9) 88 0 0 0 0, mj_n, mj_n, mj_o (.aload_n 0), mj_o (.iconst 2), mj_q (.invokevirtual 198) 176 2 0 1554 10, mj_n, mj_n, mj_o .ireturn, mj_o (.aload_n 0), mj_q (.getfield 264) 10 13 0 1496 0, mj_n, mj_n, mj_q (.ifCond .eq 11) 103 0 0 0 0, mj_n, mj_n, mj_o (.aload_n 0), mj_o (.iconst 3), mj_q (.invokevirtual 198) 176 2 0 1554 10, mj_n, mj_n, mj_q (.goto 11) 111 0 0 0 0, mj_n, mj_n, mj_o (.aload_n 0), mj_o (.iload_n 1), mj_o (.bipush 23), mj_n, mj_o (.iconst 3), mj_q (.invokevirtual 219) 229 4 0 1610 10, mj_n, mj_n, mj_o .ireturn]
def mj_m245 : mj_M := (⟨"PolyRegistersModel", "read", "(I)I"⟩, prog_12_method_72_code, 3, some FieldType.int, mj_look mj_l245, [], 1, 1780, 118, 1778, 1779)
-- 246: PolyRegistersModel.addPoint(II)I
def mj_l246_0 : List (Option mj_I) := [mj_o (.aload_n 0), mj_o (.iconst 0), mj_q (.putfield 49) 10 3 0 1486 0, mj_n, mj_n, mj_o (.iload_n 1), mj_o .i2l, mj_q (.ldc2_w 274) 18446744073709551607 0 0 1844 0, mj_n, mj_n, mj_q (.ldc2_w 276) 9 0 0 1845 0, mj_n, mj_n, mj_q (.invokestatic 177) 177 3 0 1551 0, mj_n, mj_n, mj_q (.ifCond .eq 17) 33 0 0 0 0, mj_n, mj_n, mj_o (.iload_n 2), mj_o .i2l, mj_q (.ldc2_w 278) 18446744073709550617 0 0 1846 0, mj_n, mj_n, mj_q (.ldc2_w 280) 999 0 0 1847 0, mj_n, mj_n, mj_q (.invokestatic 177) 177 3 0 1551 0, mj_n, mj_n, mj_q (.ifCond .ne 9) 39 0 0 0 0, mj_n, mj_n, mj_o (.aload_n 0), mj_o (.iconst 1), mj_q (.invokevirtual 198) 176 2 0 1554 10, mj_n, mj_n, mj_o .ireturn, mj_o (.aload_n 0), mj_q (.getfield 9) 10 0 0 1483 0, mj_n, mj_n, mj_o (.bipush 78), mj_n, mj_o .laload, mj_q (.ldc2_w 43) 6 0 0 1477 0, mj_n, mj_n, mj_o .lcmp, mj_q (.ifCond .ne 7) 57 0 0 0 0, mj_n, mj_n, mj_o (.iconst 1), mj_q (.goto 4) 58 0 0 0 0, mj_n, mj_n, mj_o (.iconst 0), mj_o (.istore_n 3), mj_o (.iconst 0), mj_o (.istore 4), mj_n, mj_o (.iload 4), mj_n, mj_o .i2l, mj_o (.aload_n 0), mj_q (.getfield 9) 10 0 0 1483 0, mj_n, mj_n, mj_o (.bipush 78), mj_n, mj_o .laload, mj_o .lcmp, mj_q (.ifCond .ge 35) 108 0 0 0 0, mj_n, mj_n, mj_o (.iload_n 3), mj_q (.ifCond .ne 19) 96 0 0 0 0, mj_n, mj_n, mj_o (.aload_n 0), mj_q (.getfield 9) 10 0 0 1483 0, mj_n, mj_n, mj_o (.bipush 79), mj_n, mj_o (.iload 4), mj_n, mj_o .iadd, mj_o .laload, mj_o (.iload_n 1), mj_o .i2l, mj_o .lcmp, mj_q (.ifCond .ne 7) 100 0 0 0 0, mj_n, mj_n, mj_o (.iconst 1), mj_q (.goto 4) 101 0 0 0 0, mj_n, mj_n, mj_o (.iconst 0), mj_o (.istore_n 3), mj_o (.iinc 4 1), mj_n, mj_n, mj_q (.goto (-43)) 62 0 0 0 0, mj_n, mj_n, mj_o (.iload_n 3), mj_q (.ifCond .eq 9) 118 0 0 0 0, mj_n, mj_n, mj_o (.aload_n 0), mj_o (.iconst 2), mj_q (.invokevirtual 198) 176 2 0 1554 10, mj_n, mj_n, mj_o .ireturn, mj_o (.aload_n 0), mj_q (.invokevirtual 201) 227 1 0 1618 10]
def mj_l246_1 : List (Option mj_I) := [mj_n, mj_n, mj_o (.aload_n 0), mj_q (.getfield 9) 10 0 0 1483 0, mj_n, mj_n, mj_o (.bipush 79), mj_n, mj_o (.aload_n 0), mj_q (.getfield 9) 10 0 0 1483 0, mj_n, mj_n, mj_o (.bipush 78), mj_n, mj_o .laload, mj_o .l2i, mj_o .iadd, mj_o (.iload_n 1), mj_o .i2l, mj_o .lastore, mj_o (.aload_n 0), mj_q (.getfield 9) 10 0 0 1483 0, mj_n, mj_n, mj_o (.bipush 85), mj_n, mj_o (.aload_n 0), mj_q (.getfield 9) 10 0 0 1483 0, mj_n, mj_n, mj_o (.bipush 78), mj_n, mj_o .laload, mj_o .l2i, mj_o .iadd, mj_o (.iload_n 2), mj_o .i2l, mj_o .lastore, mj_o (.aload_n 0), mj_q (.getfield 9) 10 0 0 1483 0, mj_n, mj_n, mj_o (.bipush 78), mj_n, mj_o .dup2, mj_o .laload, mj_o (.lconst 1), mj_o .ladd, mj_o .lastore, mj_o (.aload_n 0), mj_q (.getfield 9) 10 0 0 1483 0, mj_n, mj_n, mj_o (.bipush 78), mj_n, mj_o .laload, mj_o .l2i, mj_o .ireturn]
def mj_l246 : List (Option mj_I) := mj_l246_0 ++ (mj_l246_1)
def mj_m246 : mj_M := (⟨"PolyRegistersModel", "addPoint", "(II)I"⟩, prog_12_method_73_code, 5, some FieldType.int, mj_look mj_l246, [], 1, 1843, 118, 1841, 1842)
-- 247: PolyRegistersModel.clearPoints()I
def mj_l247 : List (Option mj_I) := [mj_o (.aload_n 0), mj_o (.iconst 0), mj_q (.putfield 49) 10 3 0 1486 0, mj_n, mj_n, mj_o (.aload_n 0), mj_q (.invokevirtual 201) 227 1 0 1618 10, mj_n, mj_n, mj_o (.aload_n 0), mj_q (.getfield 9) 10 0 0 1483 0, mj_n, mj_n, mj_o (.bipush 78), mj_n, mj_o .laload, mj_o .l2i, mj_o (.istore_n 1), mj_o (.aload_n 0), mj_q (.getfield 9) 10 0 0 1483 0, mj_n, mj_n, mj_o (.bipush 78), mj_n, mj_o (.lconst 0), mj_o .lastore, mj_o (.iload_n 1), mj_o .ireturn]
def mj_m247 : mj_M := (⟨"PolyRegistersModel", "clearPoints", "()I"⟩, prog_12_method_74_code, 2, some FieldType.int, mj_look mj_l247, [], 1, 1851, 118, 1849, 1850)
-- 248: PolyRegistersModel.common(JJ)J
def mj_l248 : List (Option mj_I) := [mj_o (.lload_n 0), mj_o (.lconst 0), mj_o .lcmp, mj_q (.ifCond .ge 8) 11 0 0 0 0, mj_n, mj_n, mj_o (.lload_n 0), mj_o .lneg, mj_q (.goto 4) 12 0 0 0 0, mj_n, mj_n, mj_o (.lload_n 0), mj_o (.lstore 4), mj_n, mj_o (.lload_n 2), mj_o (.lconst 0), mj_o .lcmp, mj_q (.ifCond .ge 8) 25 0 0 0 0, mj_n, mj_n, mj_o (.lload_n 2), mj_o .lneg, mj_q (.goto 4) 26 0 0 0 0, mj_n, mj_n, mj_o (.lload_n 2), mj_o (.lstore 6), mj_n, mj_o (.lload 6), mj_n, mj_o (.lconst 0), mj_o .lcmp, mj_q (.ifCond .eq 21) 53 0 0 0 0, mj_n, mj_n, mj_o (.lload 4), mj_n, mj_o (.lload 6), mj_n, mj_o .lrem, mj_o (.lstore 8), mj_n, mj_o (.lload 6), mj_n, mj_o (.lstore 4), mj_n, mj_o (.lload 8), mj_n, mj_o (.lstore 6), mj_n, mj_q (.goto (-22)) 28 0 0 0 0, mj_n, mj_n, mj_o (.lload 4), mj_n, mj_o .lreturn]
def mj_m248 : mj_M := (⟨"PolyRegistersModel", "common", "(JJ)J"⟩, prog_12_method_75_code, 10, some FieldType.long, mj_look mj_l248, [], 0, 1862, 118, 1861, 0)
-- 249: PolyRegistersModel.differences(I)J
def mj_l249 : List (Option mj_I) := [mj_o (.lconst 1), mj_o (.lstore_n 2), mj_o (.iconst 0), mj_o (.istore 4), mj_n, mj_o (.iload 4), mj_n, mj_o .i2l, mj_o (.aload_n 0), mj_q (.getfield 9) 10 0 0 1483 0, mj_n, mj_n, mj_o (.bipush 78), mj_n, mj_o .laload, mj_o .lcmp, mj_q (.ifCond .ge 38) 54 0 0 0 0, mj_n, mj_n, mj_o (.iload 4), mj_n, mj_o (.iload_n 1), mj_q (.if_icmp .eq 26) 48 0 0 0 0, mj_n, mj_n, mj_o (.lload_n 2), mj_o (.aload_n 0), mj_q (.getfield 9) 10 0 0 1483 0, mj_n, mj_n, mj_o (.bipush 79), mj_n, mj_o (.iload_n 1), mj_o .iadd, mj_o .laload, mj_o (.aload_n 0), mj_q (.getfield 9) 10 0 0 1483 0, mj_n, mj_n, mj_o (.bipush 79), mj_n, mj_o (.iload 4), mj_n, mj_o .iadd, mj_o .laload, mj_o .lsub, mj_o .lmul, mj_o (.lstore_n 2), mj_o (.iinc 4 1), mj_n, mj_n, mj_q (.goto (-46)) 5 0 0 0 0, mj_n, mj_n, mj_o (.lload_n 2), mj_o .lreturn]
def mj_m249 : mj_M := (⟨"PolyRegistersModel", "differences", "(I)J"⟩, prog_12_method_76_code, 5, some FieldType.long, mj_look mj_l249, [], 1, 1859, 118, 1858, 85)
-- 250: PolyRegistersModel.laysProduct(I)V
def mj_l250 : List (Option mj_I) := [mj_o (.aload_n 0), mj_o (.iconst 2), mj_q (.invokevirtual 110) 198 2 0 1650 10, mj_n, mj_n, mj_o (.aload_n 0), mj_o (.iconst 2), mj_o (.iconst 0), mj_q (.invokestatic 104) 196 2 0 1562 0, mj_n, mj_n, mj_o (.lconst 1), mj_q (.invokevirtual 45) 181 3 0 1478 10, mj_n, mj_n, mj_o (.iconst 0), mj_o (.istore_n 2), mj_o (.iload_n 2), mj_o .i2l, mj_o (.aload_n 0), mj_q (.getfield 9) 10 0 0 1483 0, mj_n, mj_n, mj_o (.bipush 78), mj_n, mj_o .laload, mj_o .lcmp, mj_q (.ifCond .ge 66) 93 0 0 0 0, mj_n, mj_n, mj_o (.iload_n 2), mj_o (.iload_n 1), mj_q (.if_icmp .ne 6) 38 0 0 0 0, mj_n, mj_n, mj_q (.goto 52) 87 0 0 0 0, mj_n, mj_n, mj_o (.aload_n 0), mj_o (.iconst 5), mj_q (.invokevirtual 110) 198 2 0 1650 10, mj_n, mj_n, mj_o (.aload_n 0), mj_o (.iconst 5), mj_o (.iconst 0), mj_q (.invokestatic 104) 196 2 0 1562 0, mj_n, mj_n, mj_o (.aload_n 0), mj_q (.getfield 9) 10 0 0 1483 0, mj_n, mj_n, mj_o (.bipush 79), mj_n, mj_o (.iload_n 2), mj_o .iadd, mj_o .laload, mj_o .lneg, mj_q (.invokevirtual 45) 181 3 0 1478 10, mj_n, mj_n, mj_o (.aload_n 0), mj_o (.iconst 5), mj_o (.iconst 1), mj_q (.invokestatic 104) 196 2 0 1562 0, mj_n, mj_n, mj_o (.lconst 1), mj_q (.invokevirtual 45) 181 3 0 1478 10, mj_n, mj_n, mj_o (.aload_n 0), mj_o (.bipush 7), mj_n, mj_o (.iconst 2), mj_o (.iconst 5), mj_q (.invokevirtual 121) 202 4 0 1646 10, mj_n, mj_n, mj_o (.aload_n 0), mj_o (.iconst 2), mj_o (.bipush 7), mj_n, mj_q (.invokevirtual 124) 200 3 0 1667 10, mj_n, mj_n, mj_o (.iinc 2 1), mj_n, mj_n, mj_q (.goto (-73)) 17 0 0 0 0, mj_n, mj_n, mj_o .return_]
def mj_m250 : mj_M := (⟨"PolyRegistersModel", "laysProduct", "(I)V"⟩, prog_12_method_77_code, 3, none, mj_look mj_l250, [], 1, 1866, 118, 1865, 86)
-- 251: PolyRegistersModel.interpolate(I)J
def mj_l251_0 : List (Option mj_I) := [mj_o (.aload_n 0), mj_o (.iconst 0), mj_q (.putfield 49) 10 3 0 1486 0, mj_n, mj_n, mj_o (.iload_n 1), mj_q (.invokestatic 181) 223 1 0 1547 0, mj_n, mj_n, mj_q (.ifCond .ne 10) 19 0 0 0 0, mj_n, mj_n, mj_o (.aload_n 0), mj_o (.iconst 1), mj_q (.invokevirtual 198) 176 2 0 1554 10, mj_n, mj_n, mj_o .i2l, mj_o .lreturn, mj_o (.lconst 1), mj_o (.lstore_n 2), mj_o (.iconst 0), mj_o (.istore 4), mj_n, mj_o (.iload 4), mj_n, mj_o .i2l, mj_o (.aload_n 0), mj_q (.getfield 9) 10 0 0 1483 0, mj_n, mj_n, mj_o (.bipush 78), mj_n, mj_o .laload, mj_o .lcmp, mj_q (.ifCond .ge 42) 77 0 0 0 0, mj_n, mj_n, mj_o (.aload_n 0), mj_o (.iload 4), mj_n, mj_q (.invokevirtual 282) 249 2 0 1856 10, mj_n, mj_n, mj_o (.lstore 5), mj_n, mj_o (.lload_n 2), mj_o (.lload_n 2), mj_o (.lload 5), mj_n, mj_q (.invokestatic 285) 248 2 0 1860 0, mj_n, mj_n, mj_o .ldiv, mj_o (.lload 5), mj_n, mj_o (.lconst 0), mj_o .lcmp, mj_q (.ifCond .ge 9) 67 0 0 0 0, mj_n, mj_n, mj_o (.lload 5), mj_n, mj_o .lneg, mj_q (.goto 5) 69 0 0 0 0, mj_n, mj_n, mj_o (.lload 5), mj_n, mj_o .lmul, mj_o (.lstore_n 2), mj_o (.iinc 4 1), mj_n, mj_n, mj_q (.goto (-50)) 24 0 0 0 0, mj_n, mj_n, mj_o (.aload_n 0), mj_o (.iconst 0), mj_q (.invokevirtual 110) 198 2 0 1650 10, mj_n, mj_n, mj_o (.iconst 0), mj_o (.istore 4), mj_n, mj_o (.iload 4), mj_n, mj_o .i2l, mj_o (.aload_n 0), mj_q (.getfield 9) 10 0 0 1483 0, mj_n, mj_n, mj_o (.bipush 78), mj_n, mj_o .laload, mj_o .lcmp, mj_q (.ifCond .ge 118) 214 0 0 0 0, mj_n, mj_n, mj_o (.aload_n 0), mj_o (.iload 4), mj_n, mj_q (.invokevirtual 289) 250 2 0 1863 10, mj_n, mj_n, mj_o (.aload_n 0), mj_o (.sipush 661), mj_n, mj_n, mj_o (.aload_n 0), mj_q (.getfield 9) 10 0 0 1483 0, mj_n, mj_n, mj_o (.bipush 85), mj_n, mj_o (.iload 4), mj_n, mj_o .iadd, mj_o .laload, mj_q (.invokevirtual 45) 181 3 0 1478 10]
def mj_l251_1 : List (Option mj_I) := [mj_n, mj_n, mj_o (.aload_n 0), mj_o (.sipush 662), mj_n, mj_n, mj_o (.lload_n 2), mj_o (.aload_n 0), mj_o (.iload 4), mj_n, mj_q (.invokevirtual 282) 249 2 0 1856 10, mj_n, mj_n, mj_o .ldiv, mj_q (.invokevirtual 45) 181 3 0 1478 10, mj_n, mj_n, mj_o (.aload_n 0), mj_o (.sipush 661), mj_n, mj_n, mj_o (.sipush 661), mj_n, mj_n, mj_o (.sipush 662), mj_n, mj_n, mj_q (.invokevirtual 117) 189 4 0 1654 10, mj_n, mj_n, mj_o (.iconst 0), mj_o (.istore 5), mj_n, mj_o (.iload 5), mj_n, mj_o (.bipush 13), mj_n, mj_q (.if_icmp .ge 51) 208 0 0 0 0, mj_n, mj_n, mj_o (.aload_n 0), mj_o (.iconst 2), mj_o (.iload 5), mj_n, mj_q (.invokestatic 104) 196 2 0 1562 0, mj_n, mj_n, mj_o (.iconst 2), mj_o (.iload 5), mj_n, mj_q (.invokestatic 104) 196 2 0 1562 0, mj_n, mj_n, mj_o (.sipush 661), mj_n, mj_n, mj_q (.invokevirtual 117) 189 4 0 1654 10, mj_n, mj_n, mj_o (.aload_n 0), mj_o (.iconst 0), mj_o (.iload 5), mj_n, mj_q (.invokestatic 104) 196 2 0 1562 0, mj_n, mj_n, mj_o (.iconst 0), mj_o (.iload 5), mj_n, mj_q (.invokestatic 104) 196 2 0 1562 0, mj_n, mj_n, mj_o (.iconst 2), mj_o (.iload 5), mj_n, mj_q (.invokestatic 104) 196 2 0 1562 0, mj_n, mj_n, mj_o (.iconst 1), mj_q (.invokevirtual 107) 188 5 0 1569 10, mj_n, mj_n, mj_o (.iinc 5 1), mj_n, mj_n, mj_q (.goto (-52)) 153 0 0 0 0, mj_n, mj_n, mj_o (.iinc 4 1), mj_n, mj_n, mj_q (.goto (-126)) 85 0 0 0 0, mj_n, mj_n, mj_o (.aload_n 0), mj_o (.sipush 656), mj_n, mj_n, mj_o (.iconst 0), mj_q (.invokevirtual 130) 207 3 0 1703 10, mj_n, mj_n, mj_o (.aload_n 0), mj_o (.sipush 661), mj_n, mj_n, mj_o (.lload_n 2), mj_q (.invokevirtual 45) 181 3 0 1478 10, mj_n, mj_n, mj_o (.aload_n 0), mj_o (.sipush 662), mj_n, mj_n, mj_o (.sipush 661), mj_n, mj_n, mj_o (.sipush 656), mj_n, mj_n]
def mj_l251_2 : List (Option mj_I) := [mj_q (.invokevirtual 127) 193 4 0 1707 10, mj_n, mj_n, mj_o (.aload_n 0), mj_o (.iconst 0), mj_q (.invokevirtual 114) 197 2 0 1630 10, mj_n, mj_n, mj_o (.istore 4), mj_n, mj_o (.iload 4), mj_n, mj_q (.ifCond .lt 22) 274 0 0 0 0, mj_n, mj_n, mj_o (.aload_n 0), mj_o (.iconst 0), mj_o (.iload 4), mj_n, mj_q (.invokestatic 104) 196 2 0 1562 0, mj_n, mj_n, mj_o (.sipush 662), mj_n, mj_n, mj_q (.invokevirtual 133) 194 3 0 1734 10, mj_n, mj_n, mj_o (.iinc 4 (-1)), mj_n, mj_n, mj_q (.goto (-21)) 250 0 0 0 0, mj_n, mj_n, mj_o (.aload_n 0), mj_o (.sipush 661), mj_n, mj_n, mj_o (.sipush 662), mj_n, mj_n, mj_q (.invokevirtual 133) 194 3 0 1734 10, mj_n, mj_n, mj_o (.aload_n 0), mj_o (.sipush 661), mj_n, mj_n, mj_q (.invokevirtual 191) 195 2 0 1626 10, mj_n, mj_n, mj_o (.lstore 4), mj_n, mj_o (.aload_n 0), mj_o (.iload_n 1), mj_o (.iconst 0), mj_o (.iconst 2), mj_q (.invokevirtual 219) 229 4 0 1610 10, mj_n, mj_n, mj_o (.istore 6), mj_n, mj_o (.aload_n 0), mj_q (.getfield 49) 10 3 0 1486 0, mj_n, mj_n, mj_q (.ifCond .ne 8) 314 0 0 0 0, mj_n, mj_n, mj_o (.lload 4), mj_n, mj_q (.goto 4) 315 0 0 0 0, mj_n, mj_n, mj_o (.lconst 0), mj_o .lreturn]
def mj_l251 : List (Option mj_I) := mj_l251_0 ++ (mj_l251_1 ++ (mj_l251_2))
def mj_m251 : mj_M := (⟨"PolyRegistersModel", "interpolate", "(I)J"⟩, prog_12_method_78_code, 7, some FieldType.long, mj_look mj_l251, [], 1, 1855, 118, 1853, 1854)
-- 252: PolyRegistersModel.undo()I
def mj_l252 : List (Option mj_I) := [mj_o (.aload_n 0), mj_o (.iconst 0), mj_q (.putfield 49) 10 3 0 1486 0, mj_n, mj_n, mj_o (.aload_n 0), mj_q (.getfield 188) 10 2 0 1485 0, mj_n, mj_n, mj_q (.ifCond .ne 5) 14 0 0 0 0, mj_n, mj_n, mj_o (.iconst (-1)), mj_o .ireturn, mj_o (.aload_n 0), mj_o .dup, mj_q (.getfield 188) 10 2 0 1485 0, mj_n, mj_n, mj_o (.iconst 1), mj_o .isub, mj_q (.putfield 188) 10 2 0 1485 0, mj_n, mj_n, mj_o (.aload_n 0), mj_q (.getfield 13) 10 1 0 1484 0, mj_n, mj_n, mj_o (.aload_n 0), mj_q (.getfield 188) 10 2 0 1485 0, mj_n, mj_n, mj_o (.bipush 91), mj_n, mj_o .imul, mj_o (.aload_n 0), mj_q (.getfield 9) 10 0 0 1483 0, mj_n, mj_n, mj_o (.iconst 0), mj_o (.bipush 91), mj_n, mj_q (.invokestatic 58) 0 0 4 1585 0, mj_n, mj_n, mj_o (.aload_n 0), mj_q (.getfield 188) 10 2 0 1485 0, mj_n, mj_n, mj_o .ireturn]
def mj_m252 : mj_M := (⟨"PolyRegistersModel", "undo", "()I"⟩, prog_12_method_79_code, 1, some FieldType.int, mj_look mj_l252, [], 1, 1870, 118, 1868, 1869)
-- 253: PolyRegistersModel.degree(I)I
def mj_l253 : List (Option mj_I) := [mj_o (.aload_n 0), mj_o (.iconst 0), mj_q (.putfield 49) 10 3 0 1486 0, mj_n, mj_n, mj_o (.iload_n 1), mj_q (.invokestatic 181) 223 1 0 1547 0, mj_n, mj_n, mj_q (.ifCond .eq 11) 20 0 0 0 0, mj_n, mj_n, mj_o (.aload_n 0), mj_o (.iload_n 1), mj_q (.invokevirtual 185) 226 2 0 1691 10, mj_n, mj_n, mj_q (.goto 8) 25 0 0 0 0, mj_n, mj_n, mj_o (.aload_n 0), mj_o (.iconst 1), mj_q (.invokevirtual 198) 176 2 0 1554 10, mj_n, mj_n, mj_o .ireturn]
def mj_m253 : mj_M := (⟨"PolyRegistersModel", "degree", "(I)I"⟩, prog_12_method_80_code, 2, some FieldType.int, mj_look mj_l253, [], 1, 1874, 118, 1872, 1873)
-- 254: PolyRegistersModel.termsOf(I)I
def mj_l254 : List (Option mj_I) := [mj_o (.iconst 0), mj_o (.istore_n 2), mj_o (.iconst 0), mj_o (.istore_n 3), mj_o (.iload_n 3), mj_o (.bipush 13), mj_n, mj_q (.if_icmp .ge 33) 40 0 0 0 0, mj_n, mj_n, mj_o (.iload_n 2), mj_o (.aload_n 0), mj_q (.getfield 9) 10 0 0 1483 0, mj_n, mj_n, mj_o (.iload_n 1), mj_o (.bipush 13), mj_n, mj_o .imul, mj_o (.iload_n 3), mj_o .iadd, mj_o .laload, mj_o (.lconst 0), mj_o .lcmp, mj_q (.ifCond .eq 7) 31 0 0 0 0, mj_n, mj_n, mj_o (.iconst 1), mj_q (.goto 4) 32 0 0 0 0, mj_n, mj_n, mj_o (.iconst 0), mj_o .iadd, mj_o (.istore_n 2), mj_o (.iinc 3 1), mj_n, mj_n, mj_q (.goto (-33)) 4 0 0 0 0, mj_n, mj_n, mj_o (.iload_n 2), mj_o .ireturn]
def mj_m254 : mj_M := (⟨"PolyRegistersModel", "termsOf", "(I)I"⟩, prog_12_method_81_code, 4, some FieldType.int, mj_look mj_l254, [], 1, 1882, 118, 1881, 87)
-- 255: PolyRegistersModel.terms(I)I
def mj_l255 : List (Option mj_I) := [mj_o (.aload_n 0), mj_o (.iconst 0), mj_q (.putfield 49) 10 3 0 1486 0, mj_n, mj_n, mj_o (.iload_n 1), mj_q (.invokestatic 181) 223 1 0 1547 0, mj_n, mj_n, mj_q (.ifCond .eq 11) 20 0 0 0 0, mj_n, mj_n, mj_o (.aload_n 0), mj_o (.iload_n 1), mj_q (.invokevirtual 292) 254 2 0 1879 10, mj_n, mj_n, mj_q (.goto 8) 25 0 0 0 0, mj_n, mj_n, mj_o (.aload_n 0), mj_o (.iconst 1), mj_q (.invokevirtual 198) 176 2 0 1554 10, mj_n, mj_n, mj_o .ireturn]
def mj_m255 : mj_M := (⟨"PolyRegistersModel", "terms", "(I)I"⟩, prog_12_method_82_code, 2, some FieldType.int, mj_look mj_l255, [], 1, 1878, 118, 1876, 1877)
-- 256: PolyRegistersModel.exponent(II)I
def mj_l256 : List (Option mj_I) := [mj_o (.aload_n 0), mj_o (.iconst 0), mj_q (.putfield 49) 10 3 0 1486 0, mj_n, mj_n, mj_o (.iload_n 1), mj_q (.invokestatic 181) 223 1 0 1547 0, mj_n, mj_n, mj_q (.ifCond .eq 20) 29 0 0 0 0, mj_n, mj_n, mj_o (.iload_n 2), mj_o .i2l, mj_o (.lconst 0), mj_o (.aload_n 0), mj_o (.iload_n 1), mj_q (.invokevirtual 292) 254 2 0 1879 10, mj_n, mj_n, mj_o (.iconst 1), mj_o .isub, mj_o .i2l, mj_q (.invokestatic 177) 177 3 0 1551 0, mj_n, mj_n, mj_q (.ifCond .ne 9) 35 0 0 0 0, mj_n, mj_n, mj_o (.aload_n 0), mj_o (.iconst 1), mj_q (.invokevirtual 198) 176 2 0 1554 10, mj_n, mj_n, mj_o .ireturn, mj_o (.bipush 13), mj_n, mj_o (.istore_n 3), mj_o (.iload_n 2), mj_o (.istore 4), mj_n, mj_o (.iload 4), mj_n, mj_q (.ifCond .lt 34) 77 0 0 0 0, mj_n, mj_n, mj_o (.iinc 3 (-1)), mj_n, mj_n, mj_o (.aload_n 0), mj_q (.getfield 9) 10 0 0 1483 0, mj_n, mj_n, mj_o (.iload_n 1), mj_o (.bipush 13), mj_n, mj_o .imul, mj_o (.iload_n 3), mj_o .iadd, mj_o .laload, mj_o (.lconst 0), mj_o .lcmp, mj_q (.ifCond .ne 9) 71 0 0 0 0, mj_n, mj_n, mj_o (.iinc 3 (-1)), mj_n, mj_n, mj_q (.goto (-19)) 49 0 0 0 0, mj_n, mj_n, mj_o (.iinc 4 (-1)), mj_n, mj_n, mj_q (.goto (-33)) 41 0 0 0 0, mj_n, mj_n, mj_o (.iload_n 3), mj_o .ireturn]
def mj_m256 : mj_M := (⟨"PolyRegistersModel", "exponent", "(II)I"⟩, prog_12_method_83_code, 5, some FieldType.int, mj_look mj_l256, [], 1, 1886, 118, 1884, 1885)
-- 257: PolyRegistersModel.coefficient(II)I
def mj_l257 : List (Option mj_I) := [mj_o (.aload_n 0), mj_o (.iconst 0), mj_q (.putfield 49) 10 3 0 1486 0, mj_n, mj_n, mj_o (.iload_n 1), mj_q (.invokestatic 181) 223 1 0 1547 0, mj_n, mj_n, mj_q (.ifCond .ne 9) 18 0 0 0 0, mj_n, mj_n, mj_o (.aload_n 0), mj_o (.iconst 1), mj_q (.invokevirtual 198) 176 2 0 1554 10, mj_n, mj_n, mj_o .ireturn, mj_o (.iload_n 2), mj_o .i2l, mj_o (.lconst 0), mj_q (.ldc2_w 227) 12 0 0 1662 0, mj_n, mj_n, mj_q (.invokestatic 177) 177 3 0 1551 0, mj_n, mj_n, mj_q (.ifCond .ne 9) 36 0 0 0 0, mj_n, mj_n, mj_o (.aload_n 0), mj_o (.iconst 2), mj_q (.invokevirtual 198) 176 2 0 1554 10, mj_n, mj_n, mj_o .ireturn, mj_o (.aload_n 0), mj_o (.sipush 652), mj_n, mj_n, mj_o (.aload_n 0), mj_q (.getfield 9) 10 0 0 1483 0, mj_n, mj_n, mj_o (.iload_n 1), mj_o (.bipush 13), mj_n, mj_o .imul, mj_o (.iload_n 2), mj_o .iadd, mj_o .laload, mj_q (.invokevirtual 45) 181 3 0 1478 10, mj_n, mj_n, mj_o (.aload_n 0), mj_o (.sipush 652), mj_n, mj_n, mj_q (.invokevirtual 295) 222 2 0 1891 10, mj_n, mj_n, mj_o .ireturn]
def mj_m257 : mj_M := (⟨"PolyRegistersModel", "coefficient", "(II)I"⟩, prog_12_method_84_code, 3, some FieldType.int, mj_look mj_l257, [], 1, 1890, 118, 1888, 1889)
-- 258: PolyRegistersModel.content(I)I
def mj_l258 : List (Option mj_I) := [mj_o (.aload_n 0), mj_o (.iconst 0), mj_q (.putfield 49) 10 3 0 1486 0, mj_n, mj_n, mj_o (.iload_n 1), mj_q (.invokestatic 181) 223 1 0 1547 0, mj_n, mj_n, mj_q (.ifCond .ne 9) 18 0 0 0 0, mj_n, mj_n, mj_o (.aload_n 0), mj_o (.iconst 1), mj_q (.invokevirtual 198) 176 2 0 1554 10, mj_n, mj_n, mj_o .ireturn, mj_o (.aload_n 0), mj_o (.iconst 0), mj_o (.iload_n 1), mj_q (.invokevirtual 213) 199 3 0 1558 10, mj_n, mj_n, mj_o (.aload_n 0), mj_o (.sipush 661), mj_n, mj_n, mj_o (.iconst 0), mj_q (.invokevirtual 130) 207 3 0 1703 10, mj_n, mj_n, mj_o (.aload_n 0), mj_o (.sipush 661), mj_n, mj_n, mj_q (.invokevirtual 295) 222 2 0 1891 10, mj_n, mj_n, mj_o .ireturn]
def mj_m258 : mj_M := (⟨"PolyRegistersModel", "content", "(I)I"⟩, prog_12_method_85_code, 2, some FieldType.int, mj_look mj_l258, [], 1, 1898, 118, 1896, 1897)
-- 259: PolyRegistersModel.isFraction(II)Z
def mj_l259 : List (Option mj_I) := [mj_o (.iload_n 0), mj_o .i2l, mj_q (.ldc2_w 298) 18446744073709550616 0 0 1906 0, mj_n, mj_n, mj_q (.ldc2_w 300) 1000 0 0 1907 0, mj_n, mj_n, mj_q (.invokestatic 177) 177 3 0 1551 0, mj_n, mj_n, mj_q (.ifCond .eq 19) 30 0 0 0 0, mj_n, mj_n, mj_o (.iload_n 1), mj_o .i2l, mj_o (.lconst 1), mj_q (.ldc2_w 300) 1000 0 0 1907 0, mj_n, mj_n, mj_q (.invokestatic 177) 177 3 0 1551 0, mj_n, mj_n, mj_q (.ifCond .eq 7) 30 0 0 0 0, mj_n, mj_n, mj_o (.iconst 1), mj_q (.goto 4) 31 0 0 0 0, mj_n, mj_n, mj_o (.iconst 0), mj_o .ireturn]
def mj_m259 : mj_M := (⟨"PolyRegistersModel", "isFraction", "(II)Z"⟩, prog_12_method_86_code, 2, some FieldType.boolean, mj_look mj_l259, [], 0, 1905, 118, 1904, 0)
-- 260: PolyRegistersModel.setsFraction(II)V
def mj_l260 : List (Option mj_I) := [mj_o (.aload_n 0), mj_o (.sipush 656), mj_n, mj_n, mj_o (.iload_n 1), mj_o .i2l, mj_q (.invokevirtual 45) 181 3 0 1478 10, mj_n, mj_n, mj_o (.aload_n 0), mj_o (.sipush 657), mj_n, mj_n, mj_o (.iload_n 2), mj_o .i2l, mj_q (.invokevirtual 45) 181 3 0 1478 10, mj_n, mj_n, mj_o .return_]
def mj_m260 : mj_M := (⟨"PolyRegistersModel", "setsFraction", "(II)V"⟩, prog_12_method_87_code, 3, none, mj_look mj_l260, [], 1, 1911, 118, 1910, 89)
-- 261: PolyRegistersModel.value(III)I
def mj_l261 : List (Option mj_I) := [mj_o (.aload_n 0), mj_o (.iconst 0), mj_q (.putfield 49) 10 3 0 1486 0, mj_n, mj_n, mj_o (.iload_n 1), mj_q (.invokestatic 181) 223 1 0 1547 0, mj_n, mj_n, mj_q (.ifCond .ne 9) 18 0 0 0 0, mj_n, mj_n, mj_o (.aload_n 0), mj_o (.iconst 1), mj_q (.invokevirtual 198) 176 2 0 1554 10, mj_n, mj_n, mj_o .ireturn, mj_o (.iload_n 2), mj_o (.iload_n 3), mj_q (.invokestatic 302) 259 2 0 1903 0, mj_n, mj_n, mj_q (.ifCond .ne 9) 32 0 0 0 0, mj_n, mj_n, mj_o (.aload_n 0), mj_o (.iconst 2), mj_q (.invokevirtual 198) 176 2 0 1554 10, mj_n, mj_n, mj_o .ireturn, mj_o (.aload_n 0), mj_o (.iconst 0), mj_o (.iload_n 1), mj_q (.invokevirtual 213) 199 3 0 1558 10, mj_n, mj_n, mj_o (.aload_n 0), mj_o (.iload_n 2), mj_o (.iload_n 3), mj_q (.invokevirtual 305) 260 3 0 1908 10, mj_n, mj_n, mj_o (.aload_n 0), mj_o (.iconst 0), mj_q (.invokevirtual 162) 215 2 0 1912 10, mj_n, mj_n, mj_o (.istore 4), mj_n, mj_o (.aload_n 0), mj_o (.sipush 659), mj_n, mj_n, mj_o (.sipush 660), mj_n, mj_n, mj_q (.invokevirtual 308) 221 3 0 1916 10, mj_n, mj_n, mj_o .ireturn]
def mj_m261 : mj_M := (⟨"PolyRegistersModel", "value", "(III)I"⟩, prog_12_method_88_code, 5, some FieldType.int, mj_look mj_l261, [], 1, 1902, 118, 1900, 1901)
-- 262: PolyRegistersModel.divides(II)Z
def mj_l262 : List (Option mj_I) := [mj_o (.aload_n 0), mj_o (.iload_n 1), mj_q (.invokestatic 181) 223 1 0 1547 0, mj_n, mj_n, mj_q (.ifCond .eq 14) 19 0 0 0 0, mj_n, mj_n, mj_o (.iload_n 2), mj_q (.invokestatic 181) 223 1 0 1547 0, mj_n, mj_n, mj_q (.ifCond .eq 7) 19 0 0 0 0, mj_n, mj_n, mj_o (.iconst 0), mj_q (.goto 4) 20 0 0 0 0, mj_n, mj_n, mj_o (.iconst 1), mj_q (.putfield 49) 10 3 0 1486 0, mj_n, mj_n, mj_o (.aload_n 0), mj_q (.getfield 49) 10 3 0 1486 0, mj_n, mj_n, mj_q (.ifCond .le 5) 32 0 0 0 0, mj_n, mj_n, mj_o (.iconst 0), mj_o .ireturn, mj_o (.aload_n 0), mj_o (.iload_n 1), mj_q (.invokevirtual 232) 225 2 0 1687 10, mj_n, mj_n, mj_q (.ifCond .ne 11) 48 0 0 0 0, mj_n, mj_n, mj_o (.aload_n 0), mj_o (.iload_n 2), mj_q (.invokevirtual 232) 225 2 0 1687 10, mj_n, mj_n, mj_q (.ifCond .eq 9) 54 0 0 0 0, mj_n, mj_n, mj_o (.aload_n 0), mj_o (.iload_n 2), mj_q (.invokevirtual 232) 225 2 0 1687 10, mj_n, mj_n, mj_o .ireturn, mj_o (.aload_n 0), mj_o (.iconst 0), mj_o (.iload_n 1), mj_q (.invokevirtual 213) 199 3 0 1558 10, mj_n, mj_n, mj_o (.aload_n 0), mj_o (.iconst 1), mj_o (.iload_n 2), mj_q (.invokevirtual 213) 199 3 0 1558 10, mj_n, mj_n, mj_o (.aload_n 0), mj_o (.iconst 1), mj_q (.invokevirtual 114) 197 2 0 1630 10, mj_n, mj_n, mj_o (.aload_n 0), mj_o (.iconst 0), mj_q (.invokevirtual 114) 197 2 0 1630 10, mj_n, mj_n, mj_q (.if_icmp .lt 17) 93 0 0 0 0, mj_n, mj_n, mj_o (.aload_n 0), mj_o (.iconst 2), mj_o (.iconst 1), mj_o (.iconst 0), mj_q (.invokevirtual 155) 213 4 0 1754 10, mj_n, mj_n, mj_q (.ifCond .eq 7) 93 0 0 0 0, mj_n, mj_n, mj_o (.iconst 1), mj_q (.goto 4) 94 0 0 0 0, mj_n, mj_n, mj_o (.iconst 0), mj_o .ireturn]
def mj_m262 : mj_M := (⟨"PolyRegistersModel", "divides", "(II)Z"⟩, prog_12_method_89_code, 3, some FieldType.boolean, mj_look mj_l262, [], 1, 1923, 118, 1921, 1922)
-- 263: PolyRegistersModel.isSame(II)Z
def mj_l263 : List (Option mj_I) := [mj_o (.iconst 1), mj_o (.istore_n 3), mj_o (.iconst 0), mj_o (.istore 4), mj_n, mj_o (.iload 4), mj_n, mj_o (.bipush 13), mj_n, mj_q (.if_icmp .ge 47) 56 0 0 0 0, mj_n, mj_n, mj_o (.iload_n 3), mj_q (.ifCond .eq 35) 48 0 0 0 0, mj_n, mj_n, mj_o (.aload_n 0), mj_q (.getfield 9) 10 0 0 1483 0, mj_n, mj_n, mj_o (.iload_n 1), mj_o (.bipush 13), mj_n, mj_o .imul, mj_o (.iload 4), mj_n, mj_o .iadd, mj_o .laload, mj_o (.aload_n 0), mj_q (.getfield 9) 10 0 0 1483 0, mj_n, mj_n, mj_o (.iload_n 2), mj_o (.bipush 13), mj_n, mj_o .imul, mj_o (.iload 4), mj_n, mj_o .iadd, mj_o .laload, mj_o .lcmp, mj_q (.ifCond .ne 7) 48 0 0 0 0, mj_n, mj_n, mj_o (.iconst 1), mj_q (.goto 4) 49 0 0 0 0, mj_n, mj_n, mj_o (.iconst 0), mj_o (.istore_n 3), mj_o (.iinc 4 1), mj_n, mj_n, mj_q (.goto (-48)) 5 0 0 0 0, mj_n, mj_n, mj_o (.iload_n 3), mj_o .ireturn]
def mj_m263 : mj_M := (⟨"PolyRegistersModel", "isSame", "(II)Z"⟩, prog_12_method_90_code, 5, some FieldType.boolean, mj_look mj_l263, [], 1, 1931, 118, 1930, 92)
-- 264: PolyRegistersModel.areSame(II)Z
def mj_l264 : List (Option mj_I) := [mj_o (.aload_n 0), mj_o (.iload_n 1), mj_q (.invokestatic 181) 223 1 0 1547 0, mj_n, mj_n, mj_q (.ifCond .eq 14) 19 0 0 0 0, mj_n, mj_n, mj_o (.iload_n 2), mj_q (.invokestatic 181) 223 1 0 1547 0, mj_n, mj_n, mj_q (.ifCond .eq 7) 19 0 0 0 0, mj_n, mj_n, mj_o (.iconst 0), mj_q (.goto 4) 20 0 0 0 0, mj_n, mj_n, mj_o (.iconst 1), mj_q (.putfield 49) 10 3 0 1486 0, mj_n, mj_n, mj_o (.aload_n 0), mj_q (.getfield 49) 10 3 0 1486 0, mj_n, mj_n, mj_q (.ifCond .ne 16) 43 0 0 0 0, mj_n, mj_n, mj_o (.aload_n 0), mj_o (.iload_n 1), mj_o (.iload_n 2), mj_q (.invokevirtual 311) 263 3 0 1928 10, mj_n, mj_n, mj_q (.ifCond .eq 7) 43 0 0 0 0, mj_n, mj_n, mj_o (.iconst 1), mj_q (.goto 4) 44 0 0 0 0, mj_n, mj_n, mj_o (.iconst 0), mj_o .ireturn]
def mj_m264 : mj_M := (⟨"PolyRegistersModel", "areSame", "(II)Z"⟩, prog_12_method_91_code, 3, some FieldType.boolean, mj_look mj_l264, [], 1, 1927, 118, 1925, 1926)
-- 265: PolyRegistersModel.agreements(II)I
def mj_l265_0 : List (Option mj_I) := [mj_o (.aload_n 0), mj_o (.iconst 0), mj_q (.putfield 49) 10 3 0 1486 0, mj_n, mj_n, mj_o (.iload_n 1), mj_q (.invokestatic 181) 223 1 0 1547 0, mj_n, mj_n, mj_q (.ifCond .eq 10) 19 0 0 0 0, mj_n, mj_n, mj_o (.iload_n 2), mj_q (.invokestatic 181) 223 1 0 1547 0, mj_n, mj_n, mj_q (.ifCond .ne 9) 25 0 0 0 0, mj_n, mj_n, mj_o (.aload_n 0), mj_o (.iconst 1), mj_q (.invokevirtual 198) 176 2 0 1554 10, mj_n, mj_n, mj_o .ireturn, mj_o (.aload_n 0), mj_o (.iconst 0), mj_o (.iload_n 1), mj_q (.invokevirtual 213) 199 3 0 1558 10, mj_n, mj_n, mj_o (.aload_n 0), mj_o (.iconst 1), mj_o (.iload_n 2), mj_q (.invokevirtual 213) 199 3 0 1558 10, mj_n, mj_n, mj_o (.iconst 0), mj_o (.aload_n 0), mj_o (.iconst 0), mj_q (.invokevirtual 114) 197 2 0 1630 10, mj_n, mj_n, mj_o (.aload_n 0), mj_o (.iconst 1), mj_q (.invokevirtual 114) 197 2 0 1630 10, mj_n, mj_n, mj_q (.invokestatic 74) 0 0 2 1592 0, mj_n, mj_n, mj_q (.invokestatic 74) 0 0 2 1592 0, mj_n, mj_n, mj_o (.istore_n 3), mj_o (.iconst 0), mj_o (.istore 4), mj_n, mj_o (.iconst 0), mj_o (.istore 5), mj_n, mj_o (.iload 5), mj_n, mj_o (.iload_n 3), mj_q (.if_icmp .gt 63) 127 0 0 0 0, mj_n, mj_n, mj_o (.aload_n 0), mj_o (.iload 5), mj_n, mj_o (.iconst 1), mj_q (.invokevirtual 305) 260 3 0 1908 10, mj_n, mj_n, mj_o (.aload_n 0), mj_o (.iconst 0), mj_q (.invokevirtual 162) 215 2 0 1912 10, mj_n, mj_n, mj_o (.istore 6), mj_n, mj_o (.aload_n 0), mj_o (.sipush 661), mj_n, mj_n, mj_o (.sipush 659), mj_n, mj_n, mj_q (.invokevirtual 84) 182 3 0 1577 10, mj_n, mj_n, mj_o (.aload_n 0), mj_o (.iconst 1), mj_q (.invokevirtual 162) 215 2 0 1912 10, mj_n, mj_n, mj_o (.istore 6), mj_n, mj_o (.iload 4), mj_n, mj_o (.aload_n 0), mj_o (.sipush 661), mj_n, mj_n, mj_o (.sipush 659), mj_n, mj_n, mj_q (.invokevirtual 314) 185 3 0 1936 10, mj_n, mj_n, mj_q (.ifCond .ne 7) 117 0 0 0 0, mj_n, mj_n, mj_o (.iconst 1), mj_q (.goto 4) 118 0 0 0 0, mj_n, mj_n, mj_o (.iconst 0), mj_o .iadd, mj_o (.istore 4)]
def mj_l265_1 : List (Option mj_I) := [mj_n, mj_o (.iinc 5 1), mj_n, mj_n, mj_q (.goto (-63)) 61 0 0 0 0, mj_n, mj_n, mj_o (.iload 4), mj_n, mj_o .ireturn]
def mj_l265 : List (Option mj_I) := mj_l265_0 ++ (mj_l265_1)
def mj_m265 : mj_M := (⟨"PolyRegistersModel", "agreements", "(II)I"⟩, prog_12_method_92_code, 7, some FieldType.int, mj_look mj_l265, [], 1, 1935, 118, 1933, 1934)
-- 266: PolyRegistersModel.told(Z)I
def mj_l266 : List (Option mj_I) := [mj_o (.iload_n 0), mj_q (.ifCond .eq 9) 10 0 0 0 0, mj_n, mj_n, mj_o (.sipush 651), mj_n, mj_n, mj_q (.goto 6) 13 0 0 0 0, mj_n, mj_n, mj_o (.sipush 650), mj_n, mj_n, mj_o .ireturn]
def mj_m266 : mj_M := (⟨"PolyRegistersModel", "told", "(Z)I"⟩, prog_12_method_93_code, 1, some FieldType.int, mj_look mj_l266, [], 0, 1946, 118, 1945, 0)
-- 267: PolyRegistersModel.digitsOf(I)I
def mj_l267 : List (Option mj_I) := [mj_o (.aload_n 0), mj_o (.iload_n 1), mj_q (.invokevirtual 52) 179 2 0 1581 10, mj_n, mj_n, mj_o (.istore_n 2), mj_o (.iload_n 2), mj_q (.ifCond .ne 5) 12 0 0 0 0, mj_n, mj_n, mj_o (.iconst 1), mj_o .ireturn, mj_o (.bipush 9), mj_n, mj_o (.iload_n 2), mj_o (.iconst 1), mj_o .isub, mj_o .imul, mj_o (.istore_n 3), mj_o (.aload_n 0), mj_o (.iload_n 1), mj_o (.iload_n 2), mj_o (.iconst 1), mj_o .isub, mj_q (.invokevirtual 64) 180 3 0 1602 10, mj_n, mj_n, mj_o (.istore 4), mj_n, mj_o (.iload 4), mj_n, mj_q (.ifCond .le 16) 47 0 0 0 0, mj_n, mj_n, mj_o (.iinc 3 1), mj_n, mj_n, mj_o (.iload 4), mj_n, mj_o (.bipush 10), mj_n, mj_o .idiv, mj_o (.istore 4), mj_n, mj_q (.goto (-15)) 29 0 0 0 0, mj_n, mj_n, mj_o (.iload_n 3), mj_o .ireturn]
def mj_m267 : mj_M := (⟨"PolyRegistersModel", "digitsOf", "(I)I"⟩, prog_12_method_94_code, 5, some FieldType.int, mj_look mj_l267, [], 1, 1950, 118, 1949, 94)
-- 268: PolyRegistersModel.digits(Z)I
def mj_l268 : List (Option mj_I) := [mj_o (.aload_n 0), mj_o (.iconst 0), mj_q (.putfield 49) 10 3 0 1486 0, mj_n, mj_n, mj_o (.aload_n 0), mj_o (.iload_n 1), mj_q (.invokestatic 317) 266 1 0 1944 0, mj_n, mj_n, mj_q (.invokevirtual 321) 267 2 0 1947 10, mj_n, mj_n, mj_o .ireturn]
def mj_m268 : mj_M := (⟨"PolyRegistersModel", "digits", "(Z)I"⟩, prog_12_method_95_code, 2, some FieldType.int, mj_look mj_l268, [], 1, 1943, 118, 1941, 1942)
-- 269: PolyRegistersModel.digit(ZI)I
def mj_l269 : List (Option mj_I) := [mj_o (.aload_n 0), mj_o (.iconst 0), mj_q (.putfield 49) 10 3 0 1486 0, mj_n, mj_n, mj_o (.iload_n 1), mj_q (.invokestatic 317) 266 1 0 1944 0, mj_n, mj_n, mj_o (.istore_n 3), mj_o (.iload_n 2), mj_o .i2l, mj_o (.lconst 0), mj_o (.aload_n 0), mj_o (.iload_n 3), mj_q (.invokevirtual 321) 267 2 0 1947 10, mj_n, mj_n, mj_o (.iconst 1), mj_o .isub, mj_o .i2l, mj_q (.invokestatic 177) 177 3 0 1551 0, mj_n, mj_n, mj_q (.ifCond .ne 9) 33 0 0 0 0, mj_n, mj_n, mj_o (.aload_n 0), mj_o (.iconst 1), mj_q (.invokevirtual 198) 176 2 0 1554 10, mj_n, mj_n, mj_o .ireturn, mj_o (.aload_n 0), mj_o (.iload_n 3), mj_o (.iload_n 2), mj_o (.bipush 9), mj_n, mj_o .idiv, mj_q (.invokevirtual 64) 180 3 0 1602 10, mj_n, mj_n, mj_o (.istore 4), mj_n, mj_o (.iload_n 2), mj_o (.bipush 9), mj_n, mj_o .irem, mj_o (.istore 5), mj_n, mj_o (.iload 5), mj_n, mj_q (.ifCond .le 16) 68 0 0 0 0, mj_n, mj_n, mj_o (.iload 4), mj_n, mj_o (.bipush 10), mj_n, mj_o .idiv, mj_o (.istore 4), mj_n, mj_o (.iinc 5 (-1)), mj_n, mj_n, mj_q (.goto (-15)) 50 0 0 0 0, mj_n, mj_n, mj_o (.iload 4), mj_n, mj_o (.bipush 10), mj_n, mj_o .irem, mj_o .ireturn]
def mj_m269 : mj_M := (⟨"PolyRegistersModel", "digit", "(ZI)I"⟩, prog_12_method_96_code, 6, some FieldType.int, mj_look mj_l269, [], 1, 1954, 118, 1952, 1953)
-- 270: PolyRegistersModel.low(Z)J
def mj_l270 : List (Option mj_I) := [mj_o (.aload_n 0), mj_o (.iconst 0), mj_q (.putfield 49) 10 3 0 1486 0, mj_n, mj_n, mj_o (.aload_n 0), mj_o (.iload_n 1), mj_q (.invokestatic 317) 266 1 0 1944 0, mj_n, mj_n, mj_q (.invokevirtual 191) 195 2 0 1626 10, mj_n, mj_n, mj_o .lreturn]
def mj_m270 : mj_M := (⟨"PolyRegistersModel", "low", "(Z)J"⟩, prog_12_method_97_code, 2, some FieldType.long, mj_look mj_l270, [], 1, 1958, 118, 1956, 1957)
-- 271: PolyRegistersModel.realRoots(I)I
def mj_l271 : List (Option mj_I) := [mj_o (.aload_n 0), mj_o (.iconst 0), mj_q (.putfield 49) 10 3 0 1486 0, mj_n, mj_n, mj_o (.iload_n 1), mj_q (.invokestatic 181) 223 1 0 1547 0, mj_n, mj_n, mj_q (.ifCond .ne 9) 18 0 0 0 0, mj_n, mj_n, mj_o (.aload_n 0), mj_o (.iconst 1), mj_q (.invokevirtual 198) 176 2 0 1554 10, mj_n, mj_n, mj_o .ireturn, mj_o (.aload_n 0), mj_o (.iload_n 1), mj_q (.invokevirtual 232) 225 2 0 1687 10, mj_n, mj_n, mj_q (.ifCond .eq 9) 32 0 0 0 0, mj_n, mj_n, mj_o (.aload_n 0), mj_o (.iconst 2), mj_q (.invokevirtual 198) 176 2 0 1554 10, mj_n, mj_n, mj_o .ireturn, mj_o (.aload_n 0), mj_o (.iconst 0), mj_o (.iload_n 1), mj_q (.invokevirtual 213) 199 3 0 1558 10, mj_n, mj_n, mj_o (.aload_n 0), mj_o (.iconst 0), mj_q (.invokevirtual 324) 216 2 0 1963 10, mj_n, mj_n, mj_o (.aload_n 0), mj_q (.invokevirtual 327) 218 1 0 1967 10, mj_n, mj_n, mj_o .ireturn]
def mj_m271 : mj_M := (⟨"PolyRegistersModel", "realRoots", "(I)I"⟩, prog_12_method_98_code, 2, some FieldType.int, mj_look mj_l271, [], 1, 1962, 118, 1960, 1961)
-- 272: PolyRegistersModel.rootsBetween(IIIII)I
def mj_l272_0 : List (Option mj_I) := [mj_o (.aload_n 0), mj_o (.iconst 0), mj_q (.putfield 49) 10 3 0 1486 0, mj_n, mj_n, mj_o (.iload_n 1), mj_q (.invokestatic 181) 223 1 0 1547 0, mj_n, mj_n, mj_q (.ifCond .ne 9) 18 0 0 0 0, mj_n, mj_n, mj_o (.aload_n 0), mj_o (.iconst 1), mj_q (.invokevirtual 198) 176 2 0 1554 10, mj_n, mj_n, mj_o .ireturn, mj_o (.iload_n 2), mj_o (.iload_n 3), mj_q (.invokestatic 302) 259 2 0 1903 0, mj_n, mj_n, mj_q (.ifCond .eq 24) 47 0 0 0 0, mj_n, mj_n, mj_o (.iload 4), mj_n, mj_o (.iload 5), mj_n, mj_q (.invokestatic 302) 259 2 0 1903 0, mj_n, mj_n, mj_q (.ifCond .eq 14) 47 0 0 0 0, mj_n, mj_n, mj_o (.iload_n 2), mj_o (.iload 5), mj_n, mj_o .imul, mj_o (.iload 4), mj_n, mj_o (.iload_n 3), mj_o .imul, mj_q (.if_icmp .lt 9) 53 0 0 0 0, mj_n, mj_n, mj_o (.aload_n 0), mj_o (.iconst 2), mj_q (.invokevirtual 198) 176 2 0 1554 10, mj_n, mj_n, mj_o .ireturn, mj_o (.aload_n 0), mj_o (.iload_n 1), mj_q (.invokevirtual 232) 225 2 0 1687 10, mj_n, mj_n, mj_q (.ifCond .eq 9) 67 0 0 0 0, mj_n, mj_n, mj_o (.aload_n 0), mj_o (.iconst 3), mj_q (.invokevirtual 198) 176 2 0 1554 10, mj_n, mj_n, mj_o .ireturn, mj_o (.aload_n 0), mj_o (.iconst 0), mj_o (.iload_n 1), mj_q (.invokevirtual 213) 199 3 0 1558 10, mj_n, mj_n, mj_o (.aload_n 0), mj_o (.iload_n 2), mj_o (.iload_n 3), mj_q (.invokevirtual 305) 260 3 0 1908 10, mj_n, mj_n, mj_o (.aload_n 0), mj_o (.iconst 0), mj_q (.invokevirtual 162) 215 2 0 1912 10, mj_n, mj_n, mj_q (.ifCond .ne 7) 91 0 0 0 0, mj_n, mj_n, mj_o (.iconst 1), mj_q (.goto 4) 92 0 0 0 0, mj_n, mj_n, mj_o (.iconst 0), mj_o (.istore 6), mj_n, mj_o (.aload_n 0), mj_o (.iload 4), mj_n, mj_o (.iload 5), mj_n, mj_q (.invokevirtual 305) 260 3 0 1908 10, mj_n, mj_n, mj_o (.iload 6), mj_n, mj_q (.ifCond .ne 11) 115 0 0 0 0, mj_n, mj_n, mj_o (.aload_n 0), mj_o (.iconst 0), mj_q (.invokevirtual 162) 215 2 0 1912 10, mj_n, mj_n, mj_q (.ifCond .ne 9) 121 0 0 0 0, mj_n, mj_n, mj_o (.aload_n 0), mj_o (.iconst 4), mj_q (.invokevirtual 198) 176 2 0 1554 10, mj_n, mj_n]
def mj_l272_1 : List (Option mj_I) := [mj_o .ireturn, mj_o (.aload_n 0), mj_o (.iconst 0), mj_q (.invokevirtual 324) 216 2 0 1963 10, mj_n, mj_n, mj_o (.aload_n 0), mj_o (.iload_n 2), mj_o (.iload_n 3), mj_q (.invokevirtual 305) 260 3 0 1908 10, mj_n, mj_n, mj_o (.aload_n 0), mj_o (.iconst 0), mj_q (.invokevirtual 165) 217 2 0 1971 10, mj_n, mj_n, mj_o (.istore 7), mj_n, mj_o (.aload_n 0), mj_o (.iload 4), mj_n, mj_o (.iload 5), mj_n, mj_q (.invokevirtual 305) 260 3 0 1908 10, mj_n, mj_n, mj_o (.iload 7), mj_n, mj_o (.aload_n 0), mj_o (.iconst 0), mj_q (.invokevirtual 165) 217 2 0 1971 10, mj_n, mj_n, mj_o .isub, mj_o .ireturn]
def mj_l272 : List (Option mj_I) := mj_l272_0 ++ (mj_l272_1)
def mj_m272 : mj_M := (⟨"PolyRegistersModel", "rootsBetween", "(IIIII)I"⟩, prog_12_method_99_code, 8, some FieldType.int, mj_look mj_l272, [], 1, 1978, 118, 1976, 1977)
-- 273: PolyRegistersModel.sturmLength(I)I
def mj_l273 : List (Option mj_I) := [mj_o (.aload_n 0), mj_o (.iconst 0), mj_q (.putfield 49) 10 3 0 1486 0, mj_n, mj_n, mj_o (.iload_n 1), mj_q (.invokestatic 181) 223 1 0 1547 0, mj_n, mj_n, mj_q (.ifCond .ne 9) 18 0 0 0 0, mj_n, mj_n, mj_o (.aload_n 0), mj_o (.iconst 1), mj_q (.invokevirtual 198) 176 2 0 1554 10, mj_n, mj_n, mj_o .ireturn, mj_o (.aload_n 0), mj_o (.iload_n 1), mj_q (.invokevirtual 232) 225 2 0 1687 10, mj_n, mj_n, mj_q (.ifCond .eq 9) 32 0 0 0 0, mj_n, mj_n, mj_o (.aload_n 0), mj_o (.iconst 2), mj_q (.invokevirtual 198) 176 2 0 1554 10, mj_n, mj_n, mj_o .ireturn, mj_o (.aload_n 0), mj_o (.iconst 0), mj_o (.iload_n 1), mj_q (.invokevirtual 213) 199 3 0 1558 10, mj_n, mj_n, mj_o (.aload_n 0), mj_o (.iconst 0), mj_q (.invokevirtual 324) 216 2 0 1963 10, mj_n, mj_n, mj_o (.aload_n 0), mj_q (.getfield 159) 10 7 0 1490 0, mj_n, mj_n, mj_o .ireturn]
def mj_m273 : mj_M := (⟨"PolyRegistersModel", "sturmLength", "(I)I"⟩, prog_12_method_100_code, 2, some FieldType.int, mj_look mj_l273, [], 1, 1982, 118, 1980, 1981)
-- 274: PolyRegistersModel.changes(III)I
def mj_l274 : List (Option mj_I) := [mj_o (.aload_n 0), mj_o (.iconst 0), mj_q (.putfield 49) 10 3 0 1486 0, mj_n, mj_n, mj_o (.iload_n 1), mj_q (.invokestatic 181) 223 1 0 1547 0, mj_n, mj_n, mj_q (.ifCond .ne 9) 18 0 0 0 0, mj_n, mj_n, mj_o (.aload_n 0), mj_o (.iconst 1), mj_q (.invokevirtual 198) 176 2 0 1554 10, mj_n, mj_n, mj_o .ireturn, mj_o (.iload_n 2), mj_o (.iload_n 3), mj_q (.invokestatic 302) 259 2 0 1903 0, mj_n, mj_n, mj_q (.ifCond .ne 9) 32 0 0 0 0, mj_n, mj_n, mj_o (.aload_n 0), mj_o (.iconst 2), mj_q (.invokevirtual 198) 176 2 0 1554 10, mj_n, mj_n, mj_o .ireturn, mj_o (.aload_n 0), mj_o (.iload_n 1), mj_q (.invokevirtual 232) 225 2 0 1687 10, mj_n, mj_n, mj_q (.ifCond .eq 9) 46 0 0 0 0, mj_n, mj_n, mj_o (.aload_n 0), mj_o (.iconst 3), mj_q (.invokevirtual 198) 176 2 0 1554 10, mj_n, mj_n, mj_o .ireturn, mj_o (.aload_n 0), mj_o (.iconst 0), mj_o (.iload_n 1), mj_q (.invokevirtual 213) 199 3 0 1558 10, mj_n, mj_n, mj_o (.aload_n 0), mj_o (.iconst 0), mj_q (.invokevirtual 324) 216 2 0 1963 10, mj_n, mj_n, mj_o (.aload_n 0), mj_o (.iload_n 2), mj_o (.iload_n 3), mj_q (.invokevirtual 305) 260 3 0 1908 10, mj_n, mj_n, mj_o (.aload_n 0), mj_o (.iconst 0), mj_q (.invokevirtual 165) 217 2 0 1971 10, mj_n, mj_n, mj_o .ireturn]
def mj_m274 : mj_M := (⟨"PolyRegistersModel", "changes", "(III)I"⟩, prog_12_method_101_code, 4, some FieldType.int, mj_look mj_l274, [], 1, 1986, 118, 1984, 1985)
-- 275: PolyRegistersModel.laysSimpleRow(I)I
def mj_l275 : List (Option mj_I) := [mj_o (.aload_n 0), mj_o (.iconst 0), mj_o (.iload_n 1), mj_q (.invokevirtual 213) 199 3 0 1558 10, mj_n, mj_n, mj_o (.aload_n 0), mj_o (.bipush 8), mj_n, mj_o (.iconst 0), mj_q (.invokevirtual 235) 214 3 0 1750 10, mj_n, mj_n, mj_o (.aload_n 0), mj_o (.bipush 8), mj_n, mj_q (.invokevirtual 324) 216 2 0 1963 10, mj_n, mj_n, mj_o (.aload_n 0), mj_q (.invokevirtual 327) 218 1 0 1967 10, mj_n, mj_n, mj_o .ireturn]
def mj_m275 : mj_M := (⟨"PolyRegistersModel", "laysSimpleRow", "(I)I"⟩, prog_12_method_102_code, 2, some FieldType.int, mj_look mj_l275, [], 1, 1994, 118, 1993, 98)
-- 276: PolyRegistersModel.closeIn(III)I
def mj_l276 : List (Option mj_I) := [mj_o (.aload_n 0), mj_o (.iconst 0), mj_q (.putfield 49) 10 3 0 1486 0, mj_n, mj_n, mj_o (.iload_n 1), mj_q (.invokestatic 181) 223 1 0 1547 0, mj_n, mj_n, mj_q (.ifCond .eq 28) 37 0 0 0 0, mj_n, mj_n, mj_o (.aload_n 0), mj_o (.iload_n 1), mj_q (.invokevirtual 232) 225 2 0 1687 10, mj_n, mj_n, mj_q (.ifCond .ne 20) 37 0 0 0 0, mj_n, mj_n, mj_o (.iload_n 2), mj_o .i2l, mj_o (.lconst 0), mj_o (.aload_n 0), mj_o (.iload_n 1), mj_q (.invokevirtual 330) 275 2 0 1991 10, mj_n, mj_n, mj_o (.iconst 1), mj_o .isub, mj_o .i2l, mj_q (.invokestatic 177) 177 3 0 1551 0, mj_n, mj_n, mj_q (.ifCond .ne 9) 43 0 0 0 0, mj_n, mj_n, mj_o (.aload_n 0), mj_o (.iconst 1), mj_q (.invokevirtual 198) 176 2 0 1554 10, mj_n, mj_n, mj_o .ireturn, mj_o (.iload_n 3), mj_o .i2l, mj_o (.lconst 0), mj_q (.ldc2_w 333) 20 0 0 1995 0, mj_n, mj_n, mj_q (.invokestatic 177) 177 3 0 1551 0, mj_n, mj_n, mj_q (.ifCond .ne 9) 61 0 0 0 0, mj_n, mj_n, mj_o (.aload_n 0), mj_o (.iconst 2), mj_q (.invokevirtual 198) 176 2 0 1554 10, mj_n, mj_n, mj_o .ireturn, mj_o (.aload_n 0), mj_o (.sipush 657), mj_n, mj_n, mj_o (.lconst 1), mj_o (.iload_n 3), mj_o .lshl, mj_q (.invokevirtual 45) 181 3 0 1478 10, mj_n, mj_n, mj_o (.aload_n 0), mj_o (.iload_n 2), mj_q (.invokevirtual 335) 220 2 0 1996 10, mj_n, mj_n, mj_o (.aload_n 0), mj_o (.sipush 656), mj_n, mj_n, mj_q (.invokevirtual 295) 222 2 0 1891 10, mj_n, mj_n, mj_o .ireturn]
def mj_m276 : mj_M := (⟨"PolyRegistersModel", "closeIn", "(III)I"⟩, prog_12_method_103_code, 4, some FieldType.int, mj_look mj_l276, [], 1, 1990, 118, 1988, 1989)
-- 277: PolyRegistersModel.isFractionRoot(I)Z
def mj_l277 : List (Option mj_I) := [mj_o (.aload_n 0), mj_o (.sipush 657), mj_n, mj_n, mj_o (.bipush 8), mj_n, mj_o (.aload_n 0), mj_o (.bipush 8), mj_n, mj_q (.invokevirtual 114) 197 2 0 1630 10, mj_n, mj_n, mj_q (.invokestatic 104) 196 2 0 1562 0, mj_n, mj_n, mj_q (.invokevirtual 84) 182 3 0 1577 10, mj_n, mj_n, mj_o (.aload_n 0), mj_o (.iload_n 1), mj_q (.invokevirtual 335) 220 2 0 1996 10, mj_n, mj_n, mj_o (.aload_n 0), mj_o (.bipush 8), mj_n, mj_q (.invokevirtual 162) 215 2 0 1912 10, mj_n, mj_n, mj_q (.ifCond .ne 7) 36 0 0 0 0, mj_n, mj_n, mj_o (.iconst 1), mj_q (.goto 4) 37 0 0 0 0, mj_n, mj_n, mj_o (.iconst 0), mj_o .ireturn]
def mj_m277 : mj_M := (⟨"PolyRegistersModel", "isFractionRoot", "(I)Z"⟩, prog_12_method_104_code, 2, some FieldType.boolean, mj_look mj_l277, [], 1, 2012, 118, 2011, 101)
-- 278: PolyRegistersModel.fractionRoots(I)I
def mj_l278 : List (Option mj_I) := [mj_o (.aload_n 0), mj_o (.iconst 0), mj_q (.putfield 49) 10 3 0 1486 0, mj_n, mj_n, mj_o (.iload_n 1), mj_q (.invokestatic 181) 223 1 0 1547 0, mj_n, mj_n, mj_q (.ifCond .ne 9) 18 0 0 0 0, mj_n, mj_n, mj_o (.aload_n 0), mj_o (.iconst 1), mj_q (.invokevirtual 198) 176 2 0 1554 10, mj_n, mj_n, mj_o .ireturn, mj_o (.aload_n 0), mj_o (.iload_n 1), mj_q (.invokevirtual 232) 225 2 0 1687 10, mj_n, mj_n, mj_q (.ifCond .eq 9) 32 0 0 0 0, mj_n, mj_n, mj_o (.aload_n 0), mj_o (.iconst 2), mj_q (.invokevirtual 198) 176 2 0 1554 10, mj_n, mj_n, mj_o .ireturn, mj_o (.aload_n 0), mj_o (.iload_n 1), mj_q (.invokevirtual 330) 275 2 0 1991 10, mj_n, mj_n, mj_o (.istore_n 2), mj_o (.iconst 0), mj_o (.istore_n 3), mj_o (.iconst 0), mj_o (.istore 4), mj_n, mj_o (.iload 4), mj_n, mj_o (.iload_n 2), mj_q (.if_icmp .ge 26) 72 0 0 0 0, mj_n, mj_n, mj_o (.iload_n 3), mj_o (.aload_n 0), mj_o (.iload 4), mj_n, mj_q (.invokevirtual 338) 277 2 0 2009 10, mj_n, mj_n, mj_q (.ifCond .eq 7) 63 0 0 0 0, mj_n, mj_n, mj_o (.iconst 1), mj_q (.goto 4) 64 0 0 0 0, mj_n, mj_n, mj_o (.iconst 0), mj_o .iadd, mj_o (.istore_n 3), mj_o (.iinc 4 1), mj_n, mj_n, mj_q (.goto (-26)) 43 0 0 0 0, mj_n, mj_n, mj_o (.iload_n 3), mj_o .ireturn]
def mj_m278 : mj_M := (⟨"PolyRegistersModel", "fractionRoots", "(I)I"⟩, prog_12_method_105_code, 5, some FieldType.int, mj_look mj_l278, [], 1, 2008, 118, 2006, 2007)
-- 279: PolyRegistersModel.fractionRoot(II)I
def mj_l279 : List (Option mj_I) := [mj_o (.aload_n 0), mj_o (.iconst 0), mj_q (.putfield 49) 10 3 0 1486 0, mj_n, mj_n, mj_o (.iload_n 1), mj_q (.invokestatic 181) 223 1 0 1547 0, mj_n, mj_n, mj_q (.ifCond .eq 15) 24 0 0 0 0, mj_n, mj_n, mj_o (.aload_n 0), mj_o (.iload_n 1), mj_q (.invokevirtual 232) 225 2 0 1687 10, mj_n, mj_n, mj_q (.ifCond .ne 7) 24 0 0 0 0, mj_n, mj_n, mj_o (.iload_n 2), mj_q (.ifCond .ge 9) 30 0 0 0 0, mj_n, mj_n, mj_o (.aload_n 0), mj_o (.iconst 1), mj_q (.invokevirtual 198) 176 2 0 1554 10, mj_n, mj_n, mj_o .ireturn, mj_o (.aload_n 0), mj_o (.iload_n 1), mj_q (.invokevirtual 330) 275 2 0 1991 10, mj_n, mj_n, mj_o (.istore_n 3), mj_o (.iload_n 2), mj_o (.istore 4), mj_n, mj_o (.iconst 0), mj_o (.istore 5), mj_n, mj_o (.iload 5), mj_n, mj_o (.iload_n 3), mj_q (.if_icmp .ge 40) 85 0 0 0 0, mj_n, mj_n, mj_o (.aload_n 0), mj_o (.iload 5), mj_n, mj_q (.invokevirtual 338) 277 2 0 2009 10, mj_n, mj_n, mj_q (.ifCond .ne 6) 60 0 0 0 0, mj_n, mj_n, mj_q (.goto 22) 79 0 0 0 0, mj_n, mj_n, mj_o (.iload 4), mj_n, mj_q (.ifCond .ne 14) 76 0 0 0 0, mj_n, mj_n, mj_o (.aload_n 0), mj_o (.sipush 656), mj_n, mj_n, mj_o (.sipush 657), mj_n, mj_n, mj_q (.invokevirtual 308) 221 3 0 1916 10, mj_n, mj_n, mj_o .ireturn, mj_o (.iinc 4 (-1)), mj_n, mj_n, mj_o (.iinc 5 1), mj_n, mj_n, mj_q (.goto (-40)) 42 0 0 0 0, mj_n, mj_n, mj_o (.aload_n 0), mj_o (.iconst 1), mj_q (.invokevirtual 198) 176 2 0 1554 10, mj_n, mj_n, mj_o .ireturn]
def mj_m279 : mj_M := (⟨"PolyRegistersModel", "fractionRoot", "(II)I"⟩, prog_12_method_106_code, 6, some FieldType.int, mj_look mj_l279, [], 1, 2016, 118, 2014, 2015)
-- 280: PolyRegistersModel.isRootBy(III)Z
def mj_l280 : List (Option mj_I) := [mj_o (.lconst 0), mj_o (.lstore 4), mj_n, mj_o (.bipush 12), mj_n, mj_o (.istore 6), mj_n, mj_o (.iload 6), mj_n, mj_q (.ifCond .lt 28) 37 0 0 0 0, mj_n, mj_n, mj_o (.lload 4), mj_n, mj_o (.iload_n 2), mj_o .i2l, mj_o .lmul, mj_o (.aload_n 0), mj_o (.iload_n 1), mj_o (.iload 6), mj_n, mj_o (.iload_n 3), mj_q (.invokevirtual 243) 242 4 0 1767 10, mj_n, mj_n, mj_o .ladd, mj_o (.iload_n 3), mj_o .i2l, mj_o .lrem, mj_o (.lstore 4), mj_n, mj_o (.iinc 6 (-1)), mj_n, mj_n, mj_q (.goto (-27)) 7 0 0 0 0, mj_n, mj_n, mj_o (.lload 4), mj_n, mj_o (.lconst 0), mj_o .lcmp, mj_q (.ifCond .ne 7) 48 0 0 0 0, mj_n, mj_n, mj_o (.iconst 1), mj_q (.goto 4) 49 0 0 0 0, mj_n, mj_n, mj_o (.iconst 0), mj_o .ireturn]
def mj_m280 : mj_M := (⟨"PolyRegistersModel", "isRootBy", "(III)Z"⟩, prog_12_method_107_code, 7, some FieldType.boolean, mj_look mj_l280, [], 1, 2024, 118, 2023, 102)
-- 281: PolyRegistersModel.rootsBy(II)I
def mj_l281 : List (Option mj_I) := [mj_o (.aload_n 0), mj_o (.iconst 0), mj_q (.putfield 49) 10 3 0 1486 0, mj_n, mj_n, mj_o (.iload_n 1), mj_q (.invokestatic 181) 223 1 0 1547 0, mj_n, mj_n, mj_q (.ifCond .ne 9) 18 0 0 0 0, mj_n, mj_n, mj_o (.aload_n 0), mj_o (.iconst 1), mj_q (.invokevirtual 198) 176 2 0 1554 10, mj_n, mj_n, mj_o .ireturn, mj_o (.iload_n 2), mj_q (.invokestatic 240) 241 1 0 1762 0, mj_n, mj_n, mj_q (.ifCond .ne 9) 31 0 0 0 0, mj_n, mj_n, mj_o (.aload_n 0), mj_o (.iconst 2), mj_q (.invokevirtual 198) 176 2 0 1554 10, mj_n, mj_n, mj_o .ireturn, mj_o (.iconst 0), mj_o (.istore_n 3), mj_o (.iconst 0), mj_o (.istore 4), mj_n, mj_o (.iload 4), mj_n, mj_o (.iload_n 2), mj_q (.if_icmp .ge 28) 67 0 0 0 0, mj_n, mj_n, mj_o (.iload_n 3), mj_o (.aload_n 0), mj_o (.iload_n 1), mj_o (.iload 4), mj_n, mj_o (.iload_n 2), mj_q (.invokevirtual 341) 280 4 0 2021 10, mj_n, mj_n, mj_q (.ifCond .eq 7) 58 0 0 0 0, mj_n, mj_n, mj_o (.iconst 1), mj_q (.goto 4) 59 0 0 0 0, mj_n, mj_n, mj_o (.iconst 0), mj_o .iadd, mj_o (.istore_n 3), mj_o (.iinc 4 1), mj_n, mj_n, mj_q (.goto (-28)) 36 0 0 0 0, mj_n, mj_n, mj_o (.iload_n 3), mj_o .ireturn]
def mj_m281 : mj_M := (⟨"PolyRegistersModel", "rootsBy", "(II)I"⟩, prog_12_method_108_code, 5, some FieldType.int, mj_look mj_l281, [], 1, 2020, 118, 2018, 2019)
-- 282: PolyRegistersModel.rootBy(II)I
def mj_l282 : List (Option mj_I) := [mj_o (.aload_n 0), mj_o (.iconst 0), mj_q (.putfield 49) 10 3 0 1486 0, mj_n, mj_n, mj_o (.iload_n 1), mj_q (.invokestatic 181) 223 1 0 1547 0, mj_n, mj_n, mj_q (.ifCond .ne 9) 18 0 0 0 0, mj_n, mj_n, mj_o (.aload_n 0), mj_o (.iconst 1), mj_q (.invokevirtual 198) 176 2 0 1554 10, mj_n, mj_n, mj_o .ireturn, mj_o (.iload_n 2), mj_q (.invokestatic 240) 241 1 0 1762 0, mj_n, mj_n, mj_q (.ifCond .ne 9) 31 0 0 0 0, mj_n, mj_n, mj_o (.aload_n 0), mj_o (.iconst 2), mj_q (.invokevirtual 198) 176 2 0 1554 10, mj_n, mj_n, mj_o .ireturn, mj_o (.iconst 0), mj_o (.istore_n 3), mj_o (.iload_n 3), mj_o (.iload_n 2), mj_q (.if_icmp .ge 21) 56 0 0 0 0, mj_n, mj_n, mj_o (.aload_n 0), mj_o (.iload_n 1), mj_o (.iload_n 3), mj_o (.iload_n 2), mj_q (.invokevirtual 341) 280 4 0 2021 10, mj_n, mj_n, mj_q (.ifCond .eq 5) 50 0 0 0 0, mj_n, mj_n, mj_o (.iload_n 3), mj_o .ireturn, mj_o (.iinc 3 1), mj_n, mj_n, mj_q (.goto (-20)) 33 0 0 0 0, mj_n, mj_n, mj_o (.aload_n 0), mj_o (.iconst 3), mj_q (.invokevirtual 198) 176 2 0 1554 10, mj_n, mj_n, mj_o .ireturn]
def mj_m282 : mj_M := (⟨"PolyRegistersModel", "rootBy", "(II)I"⟩, prog_12_method_109_code, 4, some FieldType.int, mj_look mj_l282, [], 1, 2028, 118, 2026, 2027)
-- 283: PolyRegistersModel.pointCount()I
def mj_l283 : List (Option mj_I) := [mj_o (.aload_n 0), mj_o (.iconst 0), mj_q (.putfield 49) 10 3 0 1486 0, mj_n, mj_n, mj_o (.aload_n 0), mj_q (.getfield 9) 10 0 0 1483 0, mj_n, mj_n, mj_o (.bipush 78), mj_n, mj_o .laload, mj_o .l2i, mj_o .ireturn]
def mj_m283 : mj_M := (⟨"PolyRegistersModel", "pointCount", "()I"⟩, prog_12_method_110_code, 1, some FieldType.int, mj_look mj_l283, [], 1, 2032, 118, 2030, 2031)
-- 284: PolyRegistersModel.byteOf(IIIIII)I
def mj_l284 : List (Option mj_I) := [mj_o (.iload_n 1), mj_o (.iconst 4), mj_q (.if_icmp .ge 7) 9 0 0 0 0, mj_n, mj_n, mj_o (.iload_n 2), mj_q (.goto 37) 43 0 0 0 0, mj_n, mj_n, mj_o (.iload_n 1), mj_o (.bipush 8), mj_n, mj_q (.if_icmp .ge 7) 19 0 0 0 0, mj_n, mj_n, mj_o (.iload_n 3), mj_q (.goto 27) 43 0 0 0 0, mj_n, mj_n, mj_o (.iload_n 1), mj_o (.bipush 12), mj_n, mj_q (.if_icmp .ge 8) 30 0 0 0 0, mj_n, mj_n, mj_o (.iload 4), mj_n, mj_q (.goto 16) 43 0 0 0 0, mj_n, mj_n, mj_o (.iload_n 1), mj_o (.bipush 16), mj_n, mj_q (.if_icmp .ge 8) 41 0 0 0 0, mj_n, mj_n, mj_o (.iload 5), mj_n, mj_q (.goto 5) 43 0 0 0 0, mj_n, mj_n, mj_o (.iload 6), mj_n, mj_o (.istore 7), mj_n, mj_o (.iload 7), mj_n, mj_o (.bipush 24), mj_n, mj_o (.bipush 8), mj_n, mj_o (.iload_n 1), mj_o (.iconst 4), mj_o .irem, mj_o .imul, mj_o .isub, mj_o .iushr, mj_o (.sipush 255), mj_n, mj_n, mj_o .iand, mj_o .ireturn]
def mj_m284 : mj_M := (⟨"PolyRegistersModel", "byteOf", "(IIIIII)I"⟩, prog_12_method_111_code, 8, some FieldType.int, mj_look mj_l284, [], 1, 2040, 118, 2039, 103)
-- 285: PolyRegistersModel.append(IIIII)I
def mj_l285_0 : List (Option mj_I) := [mj_o (.aload_n 0), mj_o (.iconst 0), mj_q (.putfield 49) 10 3 0 1486 0, mj_n, mj_n, mj_o (.iconst 0), mj_o (.istore 6), mj_n, mj_o (.iconst 0), mj_o (.istore 7), mj_n, mj_o (.iload 7), mj_n, mj_o (.bipush 20), mj_n, mj_q (.if_icmp .ge 35) 50 0 0 0 0, mj_n, mj_n, mj_o (.iload 6), mj_n, mj_o (.aload_n 0), mj_o (.iload 7), mj_n, mj_o (.iload_n 1), mj_o (.iload_n 2), mj_o (.iload_n 3), mj_o (.iload 4), mj_n, mj_o (.iload 5), mj_n, mj_q (.invokevirtual 344) 284 7 0 2037 10, mj_n, mj_n, mj_q (.ifCond .eq 7) 40 0 0 0 0, mj_n, mj_n, mj_o (.iconst 1), mj_q (.goto 4) 41 0 0 0 0, mj_n, mj_n, mj_o (.iconst 0), mj_o .iadd, mj_o (.istore 6), mj_n, mj_o (.iinc 7 1), mj_n, mj_n, mj_q (.goto (-36)) 11 0 0 0 0, mj_n, mj_n, mj_o (.aload_n 0), mj_q (.getfield 271) 10 9 0 1492 0, mj_n, mj_n, mj_o (.iload 6), mj_n, mj_o .iadd, mj_o (.sipush 200), mj_n, mj_n, mj_q (.if_icmp .le 9) 69 0 0 0 0, mj_n, mj_n, mj_o (.aload_n 0), mj_o (.iconst 1), mj_q (.invokevirtual 198) 176 2 0 1554 10, mj_n, mj_n, mj_o .ireturn, mj_o (.iconst 0), mj_o (.istore 7), mj_n, mj_o (.iload 7), mj_n, mj_o (.bipush 20), mj_n, mj_q (.if_icmp .ge 53) 129 0 0 0 0, mj_n, mj_n, mj_o (.aload_n 0), mj_o (.iload 7), mj_n, mj_o (.iload_n 1), mj_o (.iload_n 2), mj_o (.iload_n 3), mj_o (.iload 4), mj_n, mj_o (.iload 5), mj_n, mj_q (.invokevirtual 344) 284 7 0 2037 10, mj_n, mj_n, mj_o (.istore 8), mj_n, mj_o (.iload 8), mj_n, mj_q (.ifCond .ne 6) 102 0 0 0 0, mj_n, mj_n, mj_q (.goto 24) 123 0 0 0 0, mj_n, mj_n, mj_o (.aload_n 0), mj_q (.getfield 27) 10 8 0 1491 0, mj_n, mj_n, mj_o (.aload_n 0), mj_q (.getfield 271) 10 9 0 1492 0, mj_n, mj_n, mj_o (.iload 8), mj_n, mj_o .iastore, mj_o (.aload_n 0), mj_o .dup, mj_q (.getfield 271) 10 9 0 1492 0, mj_n, mj_n, mj_o (.iconst 1), mj_o .iadd]
def mj_l285_1 : List (Option mj_I) := [mj_q (.putfield 271) 10 9 0 1492 0, mj_n, mj_n, mj_o (.iinc 7 1), mj_n, mj_n, mj_q (.goto (-54)) 72 0 0 0 0, mj_n, mj_n, mj_o (.aload_n 0), mj_q (.getfield 271) 10 9 0 1492 0, mj_n, mj_n, mj_o .ireturn]
def mj_l285 : List (Option mj_I) := mj_l285_0 ++ (mj_l285_1)
def mj_m285 : mj_M := (⟨"PolyRegistersModel", "append", "(IIIII)I"⟩, prog_12_method_112_code, 9, some FieldType.int, mj_look mj_l285, [], 1, 2036, 118, 2034, 2035)
-- 286: PolyRegistersModel.clearText()I
def mj_l286 : List (Option mj_I) := [mj_o (.aload_n 0), mj_o (.iconst 0), mj_q (.putfield 49) 10 3 0 1486 0, mj_n, mj_n, mj_o (.aload_n 0), mj_q (.getfield 271) 10 9 0 1492 0, mj_n, mj_n, mj_o (.istore_n 1), mj_o (.aload_n 0), mj_o (.iconst 0), mj_q (.putfield 271) 10 9 0 1492 0, mj_n, mj_n, mj_o (.iload_n 1), mj_o .ireturn]
def mj_m286 : mj_M := (⟨"PolyRegistersModel", "clearText", "()I"⟩, prog_12_method_113_code, 2, some FieldType.int, mj_look mj_l286, [], 1, 2044, 118, 2042, 2043)
-- 287: PolyRegistersModel.errorPosition()I
def mj_l287 : List (Option mj_I) := [mj_o (.aload_n 0), mj_o (.iconst 0), mj_q (.putfield 49) 10 3 0 1486 0, mj_n, mj_n, mj_o (.aload_n 0), mj_q (.getfield 30) 10 12 0 1495 0, mj_n, mj_n, mj_o .ireturn]
def mj_m287 : mj_M := (⟨"PolyRegistersModel", "errorPosition", "()I"⟩, prog_12_method_114_code, 1, some FieldType.int, mj_look mj_l287, [], 1, 2048, 118, 2046, 2047)
-- 288: PolyRegistersModel.errs(I)Z
def mj_l288 : List (Option mj_I) := [mj_o (.aload_n 0), mj_o (.iload_n 1), mj_q (.putfield 30) 10 12 0 1495 0, mj_n, mj_n, mj_o (.iconst 0), mj_o .ireturn]
def mj_m288 : mj_M := (⟨"PolyRegistersModel", "errs", "(I)Z"⟩, prog_12_method_115_code, 2, some FieldType.boolean, mj_look mj_l288, [], 1, 1804, 118, 1803, 77)
-- 289: PolyRegistersModel.skips()V
def mj_l289 : List (Option mj_I) := [mj_o (.aload_n 0), mj_q (.getfield 251) 10 10 0 1493 0, mj_n, mj_n, mj_o (.aload_n 0), mj_q (.getfield 271) 10 9 0 1492 0, mj_n, mj_n, mj_q (.if_icmp .ge 30) 38 0 0 0 0, mj_n, mj_n, mj_o (.aload_n 0), mj_q (.getfield 27) 10 8 0 1491 0, mj_n, mj_n, mj_o (.aload_n 0), mj_q (.getfield 251) 10 10 0 1493 0, mj_n, mj_n, mj_o .iaload, mj_o (.bipush 32), mj_n, mj_q (.if_icmp .ne 16) 38 0 0 0 0, mj_n, mj_n, mj_o (.aload_n 0), mj_o .dup, mj_q (.getfield 251) 10 10 0 1493 0, mj_n, mj_n, mj_o (.iconst 1), mj_o .iadd, mj_q (.putfield 251) 10 10 0 1493 0, mj_n, mj_n, mj_o (.goto (-35)), mj_n, mj_n, mj_o .return_]
def mj_m289 : mj_M := (⟨"PolyRegistersModel", "skips", "()V"⟩, prog_12_method_116_code, 1, none, mj_look mj_l289, [], 1, 1792, 118, 1791, 74)
-- 290: PolyRegistersModel.takes(I)Z
def mj_l290 : List (Option mj_I) := [mj_o (.aload_n 0), mj_q (.invokevirtual 348) 289 1 0 1789 10, mj_n, mj_n, mj_o (.aload_n 0), mj_q (.getfield 251) 10 10 0 1493 0, mj_n, mj_n, mj_o (.aload_n 0), mj_q (.getfield 271) 10 9 0 1492 0, mj_n, mj_n, mj_q (.if_icmp .eq 16) 28 0 0 0 0, mj_n, mj_n, mj_o (.aload_n 0), mj_q (.getfield 27) 10 8 0 1491 0, mj_n, mj_n, mj_o (.aload_n 0), mj_q (.getfield 251) 10 10 0 1493 0, mj_n, mj_n, mj_o .iaload, mj_o (.iload_n 1), mj_q (.if_icmp .eq 5) 30 0 0 0 0, mj_n, mj_n, mj_o (.iconst 0), mj_o .ireturn, mj_o (.aload_n 0), mj_o .dup, mj_q (.getfield 251) 10 10 0 1493 0, mj_n, mj_n, mj_o (.iconst 1), mj_o .iadd, mj_q (.putfield 251) 10 10 0 1493 0, mj_n, mj_n, mj_o (.iconst 1), mj_o .ireturn]
def mj_m290 : mj_M := (⟨"PolyRegistersModel", "takes", "(I)Z"⟩, prog_12_method_117_code, 2, some FieldType.boolean, mj_look mj_l290, [], 1, 1788, 118, 1787, 73)
-- 291: PolyRegistersModel.isDigit(I)Z
def mj_l291 : List (Option mj_I) := [mj_o (.iload_n 0), mj_o (.bipush 48), mj_n, mj_q (.if_icmp .lt 13) 16 0 0 0 0, mj_n, mj_n, mj_o (.iload_n 0), mj_o (.bipush 57), mj_n, mj_q (.if_icmp .gt 7) 16 0 0 0 0, mj_n, mj_n, mj_o (.iconst 1), mj_q (.goto 4) 17 0 0 0 0, mj_n, mj_n, mj_o (.iconst 0), mj_o .ireturn]
def mj_m291 : mj_M := (⟨"PolyRegistersModel", "isDigit", "(I)Z"⟩, prog_12_method_118_code, 1, some FieldType.boolean, mj_look mj_l291, [], 0, 1812, 118, 1811, 0)
-- 292: PolyRegistersModel.readsEnd()Z
def mj_l292 : List (Option mj_I) := [mj_o (.aload_n 0), mj_q (.invokevirtual 348) 289 1 0 1789 10, mj_n, mj_n, mj_o (.aload_n 0), mj_q (.getfield 251) 10 10 0 1493 0, mj_n, mj_n, mj_o (.aload_n 0), mj_q (.getfield 271) 10 9 0 1492 0, mj_n, mj_n, mj_q (.if_icmp .eq 14) 26 0 0 0 0, mj_n, mj_n, mj_o (.aload_n 0), mj_o (.aload_n 0), mj_q (.getfield 251) 10 10 0 1493 0, mj_n, mj_n, mj_q (.invokevirtual 351) 288 2 0 1801 10, mj_n, mj_n, mj_q (.ifCond .eq 7) 30 0 0 0 0, mj_n, mj_n, mj_o (.iconst 1), mj_q (.goto 4) 31 0 0 0 0, mj_n, mj_n, mj_o (.iconst 0), mj_o .ireturn]
def mj_m292 : mj_M := (⟨"PolyRegistersModel", "readsEnd", "()Z"⟩, prog_12_method_119_code, 1, some FieldType.boolean, mj_look mj_l292, [], 1, 1819, 118, 1818, 79)
-- 293: PolyRegistersModel.readsSum()Z
def mj_l293 : List (Option mj_I) := [mj_o (.aload_n 0), mj_o (.bipush 45), mj_n, mj_q (.invokevirtual 354) 290 2 0 1785 10, mj_n, mj_n, mj_o (.istore_n 1), mj_o (.aload_n 0), mj_q (.invokevirtual 357) 294 1 0 1793 10, mj_n, mj_n, mj_o (.istore_n 2), mj_o (.iload_n 2), mj_q (.ifCond .eq 29) 42 0 0 0 0, mj_n, mj_n, mj_o (.aload_n 0), mj_o (.bipush 43), mj_n, mj_q (.invokevirtual 354) 290 2 0 1785 10, mj_n, mj_n, mj_q (.ifCond .ne 12) 34 0 0 0 0, mj_n, mj_n, mj_o (.aload_n 0), mj_o (.bipush 45), mj_n, mj_q (.invokevirtual 354) 290 2 0 1785 10, mj_n, mj_n, mj_q (.ifCond .eq 11) 42 0 0 0 0, mj_n, mj_n, mj_o (.aload_n 0), mj_q (.invokevirtual 357) 294 1 0 1793 10, mj_n, mj_n, mj_o (.istore_n 2), mj_q (.goto (-27)) 12 0 0 0 0, mj_n, mj_n, mj_o (.iload_n 2), mj_o .ireturn]
def mj_m293 : mj_M := (⟨"PolyRegistersModel", "readsSum", "()Z"⟩, prog_12_method_120_code, 3, some FieldType.boolean, mj_look mj_l293, [], 1, 1784, 118, 1783, 72)
-- 294: PolyRegistersModel.readsProduct()Z
def mj_l294 : List (Option mj_I) := [mj_o (.aload_n 0), mj_q (.invokevirtual 360) 296 1 0 1797 10, mj_n, mj_n, mj_o (.istore_n 1), mj_o (.iload_n 1), mj_q (.ifCond .eq 20) 26 0 0 0 0, mj_n, mj_n, mj_o (.aload_n 0), mj_o (.bipush 42), mj_n, mj_q (.invokevirtual 354) 290 2 0 1785 10, mj_n, mj_n, mj_q (.ifCond .eq 11) 26 0 0 0 0, mj_n, mj_n, mj_o (.aload_n 0), mj_q (.invokevirtual 360) 296 1 0 1797 10, mj_n, mj_n, mj_o (.istore_n 1), mj_q (.goto (-18)) 5 0 0 0 0, mj_n, mj_n, mj_o (.iload_n 1), mj_o .ireturn]
def mj_m294 : mj_M := (⟨"PolyRegistersModel", "readsProduct", "()Z"⟩, prog_12_method_121_code, 2, some FieldType.boolean, mj_look mj_l294, [], 1, 1796, 118, 1795, 75)
-- 295: PolyRegistersModel.readsNumber(J)Z
def mj_l295_0 : List (Option mj_I) := [mj_o (.aload_n 0), mj_q (.invokevirtual 348) 289 1 0 1789 10, mj_n, mj_n, mj_o (.aload_n 0), mj_q (.getfield 251) 10 10 0 1493 0, mj_n, mj_n, mj_o (.istore_n 3), mj_o (.lconst 0), mj_o (.lstore 4), mj_n, mj_o (.aload_n 0), mj_q (.getfield 251) 10 10 0 1493 0, mj_n, mj_n, mj_o (.aload_n 0), mj_q (.getfield 271) 10 9 0 1492 0, mj_n, mj_n, mj_q (.if_icmp .ge 65) 85 0 0 0 0, mj_n, mj_n, mj_o (.aload_n 0), mj_q (.getfield 27) 10 8 0 1491 0, mj_n, mj_n, mj_o (.aload_n 0), mj_q (.getfield 251) 10 10 0 1493 0, mj_n, mj_n, mj_o .iaload, mj_q (.invokestatic 363) 291 1 0 1810 0, mj_n, mj_n, mj_q (.ifCond .eq 50) 85 0 0 0 0, mj_n, mj_n, mj_o (.aload_n 0), mj_q (.getfield 251) 10 10 0 1493 0, mj_n, mj_n, mj_o (.iload_n 3), mj_o .isub, mj_o (.bipush 18), mj_n, mj_q (.if_icmp .ge 26) 72 0 0 0 0, mj_n, mj_n, mj_q (.ldc2_w 366) 10 0 0 1813 0, mj_n, mj_n, mj_o (.lload 4), mj_n, mj_o .lmul, mj_o (.aload_n 0), mj_q (.getfield 27) 10 8 0 1491 0, mj_n, mj_n, mj_o (.aload_n 0), mj_q (.getfield 251) 10 10 0 1493 0, mj_n, mj_n, mj_o .iaload, mj_o .i2l, mj_o .ladd, mj_q (.ldc2_w 368) 48 0 0 1814 0, mj_n, mj_n, mj_o .lsub, mj_o (.lstore 4), mj_n, mj_o (.aload_n 0), mj_o .dup, mj_q (.getfield 251) 10 10 0 1493 0, mj_n, mj_n, mj_o (.iconst 1), mj_o .iadd, mj_q (.putfield 251) 10 10 0 1493 0, mj_n, mj_n, mj_q (.goto (-70)) 12 0 0 0 0, mj_n, mj_n, mj_o (.aload_n 0), mj_q (.getfield 251) 10 10 0 1493 0, mj_n, mj_n, mj_o (.iload_n 3), mj_o .isub, mj_o .i2l, mj_o (.lconst 1), mj_q (.ldc2_w 370) 18 0 0 1815 0, mj_n, mj_n, mj_q (.invokestatic 177) 177 3 0 1551 0, mj_n, mj_n, mj_q (.ifCond .eq 10) 109 0 0 0 0, mj_n, mj_n, mj_o (.lload 4), mj_n, mj_o (.lload_n 1), mj_o .lcmp, mj_q (.ifCond .le 11) 117 0 0 0 0, mj_n, mj_n, mj_o (.aload_n 0), mj_o (.iload_n 3), mj_q (.invokevirtual 351) 288 2 0 1801 10, mj_n, mj_n, mj_q (.ifCond .eq 7) 121 0 0 0 0, mj_n, mj_n, mj_o (.iconst 1), mj_q (.goto 4) 122 0 0 0 0, mj_n]
def mj_l295_1 : List (Option mj_I) := [mj_n, mj_o (.iconst 0), mj_o .ireturn]
def mj_l295 : List (Option mj_I) := mj_l295_0 ++ (mj_l295_1)
def mj_m295 : mj_M := (⟨"PolyRegistersModel", "readsNumber", "(J)Z"⟩, prog_12_method_122_code, 6, some FieldType.boolean, mj_look mj_l295, [], 1, 1809, 118, 1808, 78)
-- 296: PolyRegistersModel.readsPower()Z
def mj_l296_0 : List (Option mj_I) := [mj_o (.aload_n 0), mj_q (.invokevirtual 348) 289 1 0 1789 10, mj_n, mj_n, mj_o (.aload_n 0), mj_q (.getfield 251) 10 10 0 1493 0, mj_n, mj_n, mj_o (.aload_n 0), mj_q (.getfield 271) 10 9 0 1492 0, mj_n, mj_n, mj_q (.if_icmp .ge 32) 44 0 0 0 0, mj_n, mj_n, mj_o (.aload_n 0), mj_q (.getfield 27) 10 8 0 1491 0, mj_n, mj_n, mj_o (.aload_n 0), mj_q (.getfield 251) 10 10 0 1493 0, mj_n, mj_n, mj_o .iaload, mj_o (.bipush 120), mj_n, mj_q (.if_icmp .ne 18) 44 0 0 0 0, mj_n, mj_n, mj_o (.aload_n 0), mj_o .dup, mj_q (.getfield 251) 10 10 0 1493 0, mj_n, mj_n, mj_o (.iconst 1), mj_o .iadd, mj_q (.putfield 251) 10 10 0 1493 0, mj_n, mj_n, mj_o (.iconst 1), mj_o (.istore_n 1), mj_q (.goto 114) 155 0 0 0 0, mj_n, mj_n, mj_o (.aload_n 0), mj_q (.getfield 251) 10 10 0 1493 0, mj_n, mj_n, mj_o (.aload_n 0), mj_q (.getfield 271) 10 9 0 1492 0, mj_n, mj_n, mj_q (.if_icmp .ge 95) 147 0 0 0 0, mj_n, mj_n, mj_o (.aload_n 0), mj_q (.getfield 27) 10 8 0 1491 0, mj_n, mj_n, mj_o (.aload_n 0), mj_q (.getfield 251) 10 10 0 1493 0, mj_n, mj_n, mj_o .iaload, mj_o (.bipush 40), mj_n, mj_q (.if_icmp .ne 81) 147 0 0 0 0, mj_n, mj_n, mj_o (.aload_n 0), mj_q (.getfield 254) 10 11 0 1494 0, mj_n, mj_n, mj_o (.bipush 8), mj_n, mj_q (.if_icmp .ne 12) 87 0 0 0 0, mj_n, mj_n, mj_o (.aload_n 0), mj_o (.aload_n 0), mj_q (.getfield 251) 10 10 0 1493 0, mj_n, mj_n, mj_q (.invokevirtual 351) 288 2 0 1801 10, mj_n, mj_n, mj_o .ireturn, mj_o (.aload_n 0), mj_o .dup, mj_q (.getfield 251) 10 10 0 1493 0, mj_n, mj_n, mj_o (.iconst 1), mj_o .iadd, mj_q (.putfield 251) 10 10 0 1493 0, mj_n, mj_n, mj_o (.aload_n 0), mj_o .dup, mj_q (.getfield 254) 10 11 0 1494 0, mj_n, mj_n, mj_o (.iconst 1), mj_o .iadd, mj_q (.putfield 254) 10 11 0 1494 0, mj_n, mj_n, mj_o (.aload_n 0), mj_q (.invokevirtual 257) 293 1 0 1781 10, mj_n, mj_n, mj_o (.istore_n 1), mj_o (.iload_n 1), mj_q (.ifCond .eq 21) 134 0 0 0 0, mj_n, mj_n, mj_o (.aload_n 0), mj_o (.bipush 41), mj_n, mj_q (.invokevirtual 354) 290 2 0 1785 10]
def mj_l296_1 : List (Option mj_I) := [mj_n, mj_n, mj_q (.ifCond .ne 12) 134 0 0 0 0, mj_n, mj_n, mj_o (.aload_n 0), mj_o (.aload_n 0), mj_q (.getfield 251) 10 10 0 1493 0, mj_n, mj_n, mj_q (.invokevirtual 351) 288 2 0 1801 10, mj_n, mj_n, mj_o .ireturn, mj_o (.aload_n 0), mj_o .dup, mj_q (.getfield 254) 10 11 0 1494 0, mj_n, mj_n, mj_o (.iconst 1), mj_o .isub, mj_q (.putfield 254) 10 11 0 1494 0, mj_n, mj_n, mj_q (.goto 11) 155 0 0 0 0, mj_n, mj_n, mj_o (.aload_n 0), mj_q (.ldc2_w 374) 9223372036854775807 0 0 1805 0, mj_n, mj_n, mj_q (.invokevirtual 376) 295 2 0 1806 10, mj_n, mj_n, mj_o (.istore_n 1), mj_o (.iload_n 1), mj_q (.ifCond .eq 20) 176 0 0 0 0, mj_n, mj_n, mj_o (.aload_n 0), mj_o (.bipush 94), mj_n, mj_q (.invokevirtual 354) 290 2 0 1785 10, mj_n, mj_n, mj_q (.ifCond .eq 11) 176 0 0 0 0, mj_n, mj_n, mj_o (.aload_n 0), mj_q (.ldc2_w 227) 12 0 0 1662 0, mj_n, mj_n, mj_q (.invokevirtual 376) 295 2 0 1806 10, mj_n, mj_n, mj_o (.istore_n 1), mj_o (.iload_n 1), mj_o .ireturn]
def mj_l296 : List (Option mj_I) := mj_l296_0 ++ (mj_l296_1)
def mj_m296 : mj_M := (⟨"PolyRegistersModel", "readsPower", "()Z"⟩, prog_12_method_123_code, 2, some FieldType.boolean, mj_look mj_l296, [], 1, 1800, 118, 1799, 76)
-- 297: PolyRegistersModel.bounds(I)V
def mj_l297 : List (Option mj_I) := [mj_o (.aload_n 0), mj_o (.aload_n 0), mj_q (.getfield 264) 10 13 0 1496 0, mj_n, mj_n, mj_q (.ifCond .ne 11) 16 0 0 0 0, mj_n, mj_n, mj_o (.aload_n 0), mj_o (.iload_n 1), mj_q (.invokevirtual 195) 205 2 0 1614 10, mj_n, mj_n, mj_q (.ifCond .ne 7) 20 0 0 0 0, mj_n, mj_n, mj_o (.iconst 1), mj_q (.goto 4) 21 0 0 0 0, mj_n, mj_n, mj_o (.iconst 0), mj_q (.putfield 264) 10 13 2 1496 0, mj_n, mj_n, mj_o .return_]
def mj_m297 : mj_M := (⟨"PolyRegistersModel", "bounds", "(I)V"⟩, prog_12_method_124_code, 2, none, mj_look mj_l297, [], 1, 1839, 118, 1838, 84)
-- 298: PolyRegistersModel.number()J
def mj_l298 : List (Option mj_I) := [mj_o (.aload_n 0), mj_q (.invokevirtual 348) 289 1 0 1789 10, mj_n, mj_n, mj_o (.lconst 0), mj_o (.lstore_n 1), mj_o (.aload_n 0), mj_q (.getfield 251) 10 10 0 1493 0, mj_n, mj_n, mj_o (.aload_n 0), mj_q (.getfield 271) 10 9 0 1492 0, mj_n, mj_n, mj_q (.if_icmp .ge 52) 66 0 0 0 0, mj_n, mj_n, mj_o (.aload_n 0), mj_q (.getfield 27) 10 8 0 1491 0, mj_n, mj_n, mj_o (.aload_n 0), mj_q (.getfield 251) 10 10 0 1493 0, mj_n, mj_n, mj_o .iaload, mj_q (.invokestatic 363) 291 1 0 1810 0, mj_n, mj_n, mj_q (.ifCond .eq 37) 66 0 0 0 0, mj_n, mj_n, mj_q (.ldc2_w 366) 10 0 0 1813 0, mj_n, mj_n, mj_o (.lload_n 1), mj_o .lmul, mj_o (.aload_n 0), mj_q (.getfield 27) 10 8 0 1491 0, mj_n, mj_n, mj_o (.aload_n 0), mj_q (.getfield 251) 10 10 0 1493 0, mj_n, mj_n, mj_o .iaload, mj_o .i2l, mj_o .ladd, mj_q (.ldc2_w 368) 48 0 0 1814 0, mj_n, mj_n, mj_o .lsub, mj_o (.lstore_n 1), mj_o (.aload_n 0), mj_o .dup, mj_q (.getfield 251) 10 10 0 1493 0, mj_n, mj_n, mj_o (.iconst 1), mj_o .iadd, mj_q (.putfield 251) 10 10 0 1493 0, mj_n, mj_n, mj_q (.goto (-57)) 6 0 0 0 0, mj_n, mj_n, mj_o (.lload_n 1), mj_o .lreturn]
def mj_m298 : mj_M := (⟨"PolyRegistersModel", "number", "()J"⟩, prog_12_method_125_code, 3, some FieldType.long, mj_look mj_l298, [], 1, 1835, 118, 1834, 83)
-- 299: PolyRegistersModel.worksSum(I)V
def mj_l299 : List (Option mj_I) := [mj_o (.aload_n 0), mj_o (.bipush 45), mj_n, mj_q (.invokevirtual 354) 290 2 0 1785 10, mj_n, mj_n, mj_q (.ifCond .eq 7) 13 0 0 0 0, mj_n, mj_n, mj_o (.iconst (-1)), mj_q (.goto 4) 14 0 0 0 0, mj_n, mj_n, mj_o (.iconst 1), mj_o (.istore_n 2), mj_o (.aload_n 0), mj_o (.iload_n 1), mj_q (.invokevirtual 110) 198 2 0 1650 10, mj_n, mj_n, mj_o (.aload_n 0), mj_o (.iload_n 1), mj_o (.iconst 1), mj_o .iadd, mj_q (.invokevirtual 380) 300 2 0 1824 10, mj_n, mj_n, mj_o (.aload_n 0), mj_q (.getfield 264) 10 13 0 1496 0, mj_n, mj_n, mj_q (.ifCond .eq 4) 35 0 0 0 0, mj_n, mj_n, mj_o .return_, mj_o (.aload_n 0), mj_o (.iload_n 1), mj_o (.iload_n 1), mj_o (.iload_n 1), mj_o (.iconst 1), mj_o .iadd, mj_o (.iload_n 2), mj_q (.invokevirtual 216) 201 5 0 1565 10, mj_n, mj_n, mj_o (.aload_n 0), mj_o (.iload_n 1), mj_q (.invokevirtual 383) 297 2 0 1836 10, mj_n, mj_n, mj_o (.aload_n 0), mj_o (.bipush 43), mj_n, mj_q (.invokevirtual 354) 290 2 0 1785 10, mj_n, mj_n, mj_q (.ifCond .eq 7) 63 0 0 0 0, mj_n, mj_n, mj_o (.iconst 1), mj_q (.goto 17) 77 0 0 0 0, mj_n, mj_n, mj_o (.aload_n 0), mj_o (.bipush 45), mj_n, mj_q (.invokevirtual 354) 290 2 0 1785 10, mj_n, mj_n, mj_q (.ifCond .eq 7) 76 0 0 0 0, mj_n, mj_n, mj_o (.iconst (-1)), mj_q (.goto 4) 77 0 0 0 0, mj_n, mj_n, mj_o (.iconst 0), mj_o (.istore_n 2), mj_o (.iload_n 2), mj_q (.ifCond .eq 10) 89 0 0 0 0, mj_n, mj_n, mj_o (.aload_n 0), mj_q (.getfield 264) 10 13 0 1496 0, mj_n, mj_n, mj_q (.ifCond .eq (-66)) 20 0 0 0 0, mj_n, mj_n, mj_o .return_]
def mj_m299 : mj_M := (⟨"PolyRegistersModel", "worksSum", "(I)V"⟩, prog_12_method_126_code, 3, none, mj_look mj_l299, [], 1, 1823, 118, 1822, 80)
-- 300: PolyRegistersModel.worksProduct(I)V
def mj_l300 : List (Option mj_I) := [mj_o (.aload_n 0), mj_o (.iload_n 1), mj_o (.iconst 1), mj_o .iadd, mj_q (.invokevirtual 386) 301 2 0 1828 10, mj_n, mj_n, mj_o (.aload_n 0), mj_q (.getfield 264) 10 13 0 1496 0, mj_n, mj_n, mj_q (.ifCond .eq 4) 15 0 0 0 0, mj_n, mj_n, mj_o .return_, mj_o (.aload_n 0), mj_o (.iload_n 1), mj_o (.iload_n 1), mj_o (.iconst 1), mj_o .iadd, mj_q (.invokevirtual 124) 200 3 0 1667 10, mj_n, mj_n, mj_o (.aload_n 0), mj_o (.bipush 42), mj_n, mj_q (.invokevirtual 354) 290 2 0 1785 10, mj_n, mj_n, mj_q (.ifCond .eq 75) 104 0 0 0 0, mj_n, mj_n, mj_o (.aload_n 0), mj_o (.iload_n 1), mj_o (.iconst 1), mj_o .iadd, mj_q (.invokevirtual 386) 301 2 0 1828 10, mj_n, mj_n, mj_o (.aload_n 0), mj_o (.aload_n 0), mj_q (.getfield 264) 10 13 0 1496 0, mj_n, mj_n, mj_q (.ifCond .ne 14) 58 0 0 0 0, mj_n, mj_n, mj_o (.aload_n 0), mj_o (.iload_n 1), mj_o (.iload_n 1), mj_o (.iconst 1), mj_o .iadd, mj_q (.invokevirtual 223) 203 3 0 1642 10, mj_n, mj_n, mj_q (.ifCond .eq 7) 62 0 0 0 0, mj_n, mj_n, mj_o (.iconst 1), mj_q (.goto 4) 63 0 0 0 0, mj_n, mj_n, mj_o (.iconst 0), mj_q (.putfield 264) 10 13 2 1496 0, mj_n, mj_n, mj_o (.aload_n 0), mj_q (.getfield 264) 10 13 0 1496 0, mj_n, mj_n, mj_q (.ifCond .eq 4) 74 0 0 0 0, mj_n, mj_n, mj_o .return_, mj_o (.aload_n 0), mj_o (.bipush 7), mj_n, mj_o (.iload_n 1), mj_o (.iload_n 1), mj_o (.iconst 1), mj_o .iadd, mj_q (.invokevirtual 121) 202 4 0 1646 10, mj_n, mj_n, mj_o (.aload_n 0), mj_o (.iload_n 1), mj_o (.bipush 7), mj_n, mj_q (.invokevirtual 124) 200 3 0 1667 10, mj_n, mj_n, mj_o (.aload_n 0), mj_o (.iload_n 1), mj_q (.invokevirtual 383) 297 2 0 1836 10, mj_n, mj_n, mj_o (.aload_n 0), mj_q (.getfield 264) 10 13 0 1496 0, mj_n, mj_n, mj_q (.ifCond .eq (-77)) 23 0 0 0 0, mj_n, mj_n, mj_o .return_, mj_o .return_]
def mj_m300 : mj_M := (⟨"PolyRegistersModel", "worksProduct", "(I)V"⟩, prog_12_method_127_code, 2, none, mj_look mj_l300, [], 1, 1827, 118, 1826, 81)
-- 301: PolyRegistersModel.worksPower(I)V
def mj_l301_0 : List (Option mj_I) := [mj_o (.aload_n 0), mj_q (.invokevirtual 348) 289 1 0 1789 10, mj_n, mj_n, mj_o (.aload_n 0), mj_q (.getfield 27) 10 8 0 1491 0, mj_n, mj_n, mj_o (.aload_n 0), mj_q (.getfield 251) 10 10 0 1493 0, mj_n, mj_n, mj_o .iaload, mj_o (.bipush 120), mj_n, mj_q (.if_icmp .ne 31) 46 0 0 0 0, mj_n, mj_n, mj_o (.aload_n 0), mj_o .dup, mj_q (.getfield 251) 10 10 0 1493 0, mj_n, mj_n, mj_o (.iconst 1), mj_o .iadd, mj_q (.putfield 251) 10 10 0 1493 0, mj_n, mj_n, mj_o (.aload_n 0), mj_o (.iload_n 1), mj_q (.invokevirtual 110) 198 2 0 1650 10, mj_n, mj_n, mj_o (.aload_n 0), mj_o (.iload_n 1), mj_o (.iconst 1), mj_q (.invokestatic 104) 196 2 0 1562 0, mj_n, mj_n, mj_o (.lconst 1), mj_q (.invokevirtual 45) 181 3 0 1478 10, mj_n, mj_n, mj_q (.goto 78) 121 0 0 0 0, mj_n, mj_n, mj_o (.aload_n 0), mj_q (.getfield 27) 10 8 0 1491 0, mj_n, mj_n, mj_o (.aload_n 0), mj_q (.getfield 251) 10 10 0 1493 0, mj_n, mj_n, mj_o .iaload, mj_o (.bipush 40), mj_n, mj_q (.if_icmp .ne 46) 103 0 0 0 0, mj_n, mj_n, mj_o (.aload_n 0), mj_o .dup, mj_q (.getfield 251) 10 10 0 1493 0, mj_n, mj_n, mj_o (.iconst 1), mj_o .iadd, mj_q (.putfield 251) 10 10 0 1493 0, mj_n, mj_n, mj_o (.aload_n 0), mj_o (.iload_n 1), mj_o (.iconst 1), mj_o .iadd, mj_q (.invokevirtual 268) 299 2 0 1820 10, mj_n, mj_n, mj_o (.aload_n 0), mj_q (.getfield 264) 10 13 0 1496 0, mj_n, mj_n, mj_q (.ifCond .eq 4) 85 0 0 0 0, mj_n, mj_n, mj_o .return_, mj_o (.aload_n 0), mj_o (.iload_n 1), mj_o (.iload_n 1), mj_o (.iconst 1), mj_o .iadd, mj_q (.invokevirtual 124) 200 3 0 1667 10, mj_n, mj_n, mj_o (.aload_n 0), mj_o (.bipush 41), mj_n, mj_q (.invokevirtual 354) 290 2 0 1785 10, mj_n, mj_n, mj_o (.istore_n 2), mj_q (.goto 21) 121 0 0 0 0, mj_n, mj_n, mj_o (.aload_n 0), mj_o (.iload_n 1), mj_q (.invokevirtual 110) 198 2 0 1650 10, mj_n, mj_n, mj_o (.aload_n 0), mj_o (.iload_n 1), mj_o (.iconst 0), mj_q (.invokestatic 104) 196 2 0 1562 0, mj_n, mj_n, mj_o (.aload_n 0), mj_q (.invokevirtual 389) 298 1 0 1832 10, mj_n, mj_n, mj_q (.invokevirtual 45) 181 3 0 1478 10, mj_n]
def mj_l301_1 : List (Option mj_I) := [mj_n, mj_o (.aload_n 0), mj_o (.bipush 94), mj_n, mj_q (.invokevirtual 354) 290 2 0 1785 10, mj_n, mj_n, mj_q (.ifCond .ne 4) 131 0 0 0 0, mj_n, mj_n, mj_o .return_, mj_o (.aload_n 0), mj_o (.iconst 0), mj_o (.iload_n 1), mj_q (.invokevirtual 124) 200 3 0 1667 10, mj_n, mj_n, mj_o (.aload_n 0), mj_o (.aload_n 0), mj_o (.iload_n 1), mj_o (.iconst 0), mj_o (.aload_n 0), mj_q (.invokevirtual 389) 298 1 0 1832 10, mj_n, mj_n, mj_o .l2i, mj_q (.invokevirtual 229) 204 4 0 1663 10, mj_n, mj_n, mj_q (.ifCond .ne 7) 156 0 0 0 0, mj_n, mj_n, mj_o (.iconst 1), mj_q (.goto 4) 157 0 0 0 0, mj_n, mj_n, mj_o (.iconst 0), mj_q (.putfield 264) 10 13 2 1496 0, mj_n, mj_n, mj_o (.aload_n 0), mj_q (.getfield 264) 10 13 0 1496 0, mj_n, mj_n, mj_q (.ifCond .ne 8) 172 0 0 0 0, mj_n, mj_n, mj_o (.aload_n 0), mj_o (.iload_n 1), mj_q (.invokevirtual 383) 297 2 0 1836 10, mj_n, mj_n, mj_o .return_]
def mj_l301 : List (Option mj_I) := mj_l301_0 ++ (mj_l301_1)
def mj_m301 : mj_M := (⟨"PolyRegistersModel", "worksPower", "(I)V"⟩, prog_12_method_128_code, 3, none, mj_look mj_l301, [], 1, 1831, 118, 1830, 82)
-- 302: PolyRegistersModel.writes(I)V
def mj_l302 : List (Option mj_I) := [mj_o (.aload_n 0), mj_q (.getfield 34) 10 14 0 1497 0, mj_n, mj_n, mj_o (.aload_n 0), mj_q (.getfield 393) 10 15 0 1498 0, mj_n, mj_n, mj_o (.iload_n 1), mj_o .iastore, mj_o (.aload_n 0), mj_o .dup, mj_q (.getfield 393) 10 15 0 1498 0, mj_n, mj_n, mj_o (.iconst 1), mj_o .iadd, mj_q (.putfield 393) 10 15 0 1498 0, mj_n, mj_n, mj_o .return_]
def mj_m302 : mj_M := (⟨"PolyRegistersModel", "writes", "(I)V"⟩, prog_12_method_129_code, 2, none, mj_look mj_l302, [], 1, 2056, 118, 2055, 104)
-- 303: PolyRegistersModel.writesNumber(J)V
def mj_l303 : List (Option mj_I) := [mj_o (.lconst 1), mj_o (.lstore_n 3), mj_o (.lload_n 1), mj_o (.lload_n 3), mj_o .ldiv, mj_q (.ldc2_w 366) 10 0 0 1813 0, mj_n, mj_n, mj_o .lcmp, mj_q (.ifCond .lt 12) 21 0 0 0 0, mj_n, mj_n, mj_o (.lload_n 3), mj_q (.ldc2_w 366) 10 0 0 1813 0, mj_n, mj_n, mj_o .lmul, mj_o (.lstore_n 3), mj_q (.goto (-16)) 2 0 0 0 0, mj_n, mj_n, mj_o (.lload_n 3), mj_o (.lconst 0), mj_o .lcmp, mj_q (.ifCond .le 27) 51 0 0 0 0, mj_n, mj_n, mj_o (.aload_n 0), mj_o (.bipush 48), mj_n, mj_o (.lload_n 1), mj_o (.lload_n 3), mj_o .ldiv, mj_q (.ldc2_w 366) 10 0 0 1813 0, mj_n, mj_n, mj_o .lrem, mj_o .l2i, mj_o .iadd, mj_q (.invokevirtual 396) 302 2 0 2053 10, mj_n, mj_n, mj_o (.lload_n 3), mj_q (.ldc2_w 366) 10 0 0 1813 0, mj_n, mj_n, mj_o .ldiv, mj_o (.lstore_n 3), mj_q (.goto (-27)) 21 0 0 0 0, mj_n, mj_n, mj_o .return_]
def mj_m303 : mj_M := (⟨"PolyRegistersModel", "writesNumber", "(J)V"⟩, prog_12_method_130_code, 5, none, mj_look mj_l303, [], 1, 2064, 118, 2063, 106)
-- 304: PolyRegistersModel.writesTerm(JI)V
def mj_l304 : List (Option mj_I) := [mj_o (.lload_n 1), mj_o (.lconst 0), mj_o .lcmp, mj_q (.ifCond .ge 8) 11 0 0 0 0, mj_n, mj_n, mj_o (.lload_n 1), mj_o .lneg, mj_q (.goto 4) 12 0 0 0 0, mj_n, mj_n, mj_o (.lload_n 1), mj_o (.lstore 4), mj_n, mj_o (.lload 4), mj_n, mj_o (.lconst 1), mj_o .lcmp, mj_q (.ifCond .ne 7) 25 0 0 0 0, mj_n, mj_n, mj_o (.iload_n 3), mj_q (.ifCond .ne 19) 41 0 0 0 0, mj_n, mj_n, mj_o (.aload_n 0), mj_o (.lload 4), mj_n, mj_q (.invokevirtual 399) 303 2 0 2061 10, mj_n, mj_n, mj_o (.iload_n 3), mj_q (.ifCond .le 9) 41 0 0 0 0, mj_n, mj_n, mj_o (.aload_n 0), mj_o (.bipush 42), mj_n, mj_q (.invokevirtual 396) 302 2 0 2053 10, mj_n, mj_n, mj_o (.iload_n 3), mj_q (.ifCond .le 9) 51 0 0 0 0, mj_n, mj_n, mj_o (.aload_n 0), mj_o (.bipush 120), mj_n, mj_q (.invokevirtual 396) 302 2 0 2053 10, mj_n, mj_n, mj_o (.iload_n 3), mj_o (.iconst 1), mj_q (.if_icmp .le 15) 68 0 0 0 0, mj_n, mj_n, mj_o (.aload_n 0), mj_o (.bipush 94), mj_n, mj_q (.invokevirtual 396) 302 2 0 2053 10, mj_n, mj_n, mj_o (.aload_n 0), mj_o (.iload_n 3), mj_o .i2l, mj_q (.invokevirtual 399) 303 2 0 2061 10, mj_n, mj_n, mj_o .return_]
def mj_m304 : mj_M := (⟨"PolyRegistersModel", "writesTerm", "(JI)V"⟩, prog_12_method_131_code, 6, none, mj_look mj_l304, [], 1, 2060, 118, 2059, 105)
-- 305: PolyRegistersModel.write(I)I
def mj_l305_0 : List (Option mj_I) := [mj_o (.aload_n 0), mj_o (.iconst 0), mj_q (.putfield 49) 10 3 0 1486 0, mj_n, mj_n, mj_o (.iload_n 1), mj_q (.invokestatic 181) 223 1 0 1547 0, mj_n, mj_n, mj_q (.ifCond .ne 9) 18 0 0 0 0, mj_n, mj_n, mj_o (.aload_n 0), mj_o (.iconst 1), mj_q (.invokevirtual 198) 176 2 0 1554 10, mj_n, mj_n, mj_o .ireturn, mj_o (.aload_n 0), mj_o (.iconst 0), mj_q (.putfield 393) 10 15 0 1498 0, mj_n, mj_n, mj_o (.aload_n 0), mj_o (.iload_n 1), mj_q (.invokevirtual 185) 226 2 0 1691 10, mj_n, mj_n, mj_o (.istore_n 2), mj_o (.iload_n 2), mj_q (.ifCond .ge 9) 39 0 0 0 0, mj_n, mj_n, mj_o (.aload_n 0), mj_o (.bipush 48), mj_n, mj_q (.invokevirtual 396) 302 2 0 2053 10, mj_n, mj_n, mj_o (.iload_n 2), mj_o (.istore_n 3), mj_o (.iload_n 3), mj_q (.ifCond .lt 90) 132 0 0 0 0, mj_n, mj_n, mj_o (.aload_n 0), mj_q (.getfield 9) 10 0 0 1483 0, mj_n, mj_n, mj_o (.iload_n 1), mj_o (.bipush 13), mj_n, mj_o .imul, mj_o (.iload_n 3), mj_o .iadd, mj_o .laload, mj_o (.lstore 4), mj_n, mj_o (.lload 4), mj_n, mj_o (.lconst 0), mj_o .lcmp, mj_q (.ifCond .ne 6) 68 0 0 0 0, mj_n, mj_n, mj_q (.goto 61) 126 0 0 0 0, mj_n, mj_n, mj_o (.iload_n 3), mj_o (.iload_n 2), mj_q (.if_icmp .ge 36) 106 0 0 0 0, mj_n, mj_n, mj_o (.aload_n 0), mj_o (.bipush 32), mj_n, mj_q (.invokevirtual 396) 302 2 0 2053 10, mj_n, mj_n, mj_o (.aload_n 0), mj_o (.lload 4), mj_n, mj_o (.lconst 0), mj_o .lcmp, mj_q (.ifCond .ge 8) 92 0 0 0 0, mj_n, mj_n, mj_o (.bipush 45), mj_n, mj_q (.goto 5) 94 0 0 0 0, mj_n, mj_n, mj_o (.bipush 43), mj_n, mj_q (.invokevirtual 396) 302 2 0 2053 10, mj_n, mj_n, mj_o (.aload_n 0), mj_o (.bipush 32), mj_n, mj_q (.invokevirtual 396) 302 2 0 2053 10, mj_n, mj_n, mj_q (.goto 16) 119 0 0 0 0, mj_n, mj_n, mj_o (.lload 4), mj_n, mj_o (.lconst 0), mj_o .lcmp, mj_q (.ifCond .ge 9) 119 0 0 0 0, mj_n, mj_n, mj_o (.aload_n 0), mj_o (.bipush 45), mj_n, mj_q (.invokevirtual 396) 302 2 0 2053 10, mj_n, mj_n, mj_o (.aload_n 0)]
def mj_l305_1 : List (Option mj_I) := [mj_o (.lload 4), mj_n, mj_o (.iload_n 3), mj_q (.invokevirtual 403) 304 3 0 2057 10, mj_n, mj_n, mj_o (.iinc 3 (-1)), mj_n, mj_n, mj_q (.goto (-88)) 41 0 0 0 0, mj_n, mj_n, mj_o (.aload_n 0), mj_q (.getfield 393) 10 15 0 1498 0, mj_n, mj_n, mj_o .ireturn]
def mj_l305 : List (Option mj_I) := mj_l305_0 ++ (mj_l305_1)
def mj_m305 : mj_M := (⟨"PolyRegistersModel", "write", "(I)I"⟩, prog_12_method_132_code, 6, some FieldType.int, mj_look mj_l305, [], 1, 2052, 118, 2050, 2051)
-- 306: PolyRegistersModel.writtenAt(I)I
def mj_l306 : List (Option mj_I) := [mj_o (.aload_n 0), mj_o (.iconst 0), mj_q (.putfield 49) 10 3 0 1486 0, mj_n, mj_n, mj_o (.iload_n 1), mj_o .i2l, mj_o (.lconst 0), mj_o (.aload_n 0), mj_q (.getfield 393) 10 15 0 1498 0, mj_n, mj_n, mj_o (.iconst 1), mj_o .isub, mj_o .i2l, mj_q (.invokestatic 177) 177 3 0 1551 0, mj_n, mj_n, mj_q (.ifCond .eq 12) 30 0 0 0 0, mj_n, mj_n, mj_o (.aload_n 0), mj_q (.getfield 34) 10 14 0 1497 0, mj_n, mj_n, mj_o (.iload_n 1), mj_o .iaload, mj_q (.goto 8) 35 0 0 0 0, mj_n, mj_n, mj_o (.aload_n 0), mj_o (.iconst 1), mj_q (.invokevirtual 198) 176 2 0 1554 10, mj_n, mj_n, mj_o .ireturn]
def mj_m306 : mj_M := (⟨"PolyRegistersModel", "writtenAt", "(I)I"⟩, prog_12_method_133_code, 2, some FieldType.int, mj_look mj_l306, [], 1, 2068, 118, 2066, 2067)
-- 307: PolyRegistersModel.meanTerms()D
def mj_l307 : List (Option mj_I) := [mj_o (.aload_n 0), mj_o (.iconst 0), mj_q (.putfield 49) 10 3 0 1486 0, mj_n, mj_n, mj_o (.iconst 0), mj_o (.istore_n 1), mj_o (.iconst 0), mj_o (.istore_n 2), mj_o (.iload_n 2), mj_o (.bipush 6), mj_n, mj_q (.if_icmp .ge 17) 29 0 0 0 0, mj_n, mj_n, mj_o (.iload_n 1), mj_o (.aload_n 0), mj_o (.iload_n 2), mj_q (.invokevirtual 292) 254 2 0 1879 10, mj_n, mj_n, mj_o .iadd, mj_o (.istore_n 1), mj_o (.iinc 2 1), mj_n, mj_n, mj_q (.goto (-17)) 9 0 0 0 0, mj_n, mj_n, mj_o (.iload_n 1), mj_o .i2d, mj_q (.ldc2_w 407) 4618441417868443648 1 0 2073 0, mj_n, mj_n, mj_o .ddiv, mj_o .dreturn]
def mj_m307 : mj_M := (⟨"PolyRegistersModel", "meanTerms", "()D"⟩, prog_12_method_134_code, 3, some FieldType.double, mj_look mj_l307, [], 1, 2072, 118, 2070, 2071)
-- 308: PolyRegistersModel.usedShare()F
def mj_l308 : List (Option mj_I) := [mj_o (.aload_n 0), mj_o (.iconst 0), mj_q (.putfield 49) 10 3 0 1486 0, mj_n, mj_n, mj_o (.iconst 0), mj_o (.istore_n 1), mj_o (.iconst 0), mj_o (.istore_n 2), mj_o (.iload_n 2), mj_o (.bipush 6), mj_n, mj_q (.if_icmp .ge 25) 37 0 0 0 0, mj_n, mj_n, mj_o (.iload_n 1), mj_o (.aload_n 0), mj_o (.iload_n 2), mj_q (.invokevirtual 232) 225 2 0 1687 10, mj_n, mj_n, mj_q (.ifCond .eq 7) 28 0 0 0 0, mj_n, mj_n, mj_o (.iconst 0), mj_q (.goto 4) 29 0 0 0 0, mj_n, mj_n, mj_o (.iconst 1), mj_o .iadd, mj_o (.istore_n 1), mj_o (.iinc 2 1), mj_n, mj_n, mj_q (.goto (-25)) 9 0 0 0 0, mj_n, mj_n, mj_o (.iload_n 1), mj_o .i2f, mj_q (.ldc_w 409) 1086324736 1 0 2078 0, mj_n, mj_n, mj_o .fdiv, mj_o .freturn]
def mj_m308 : mj_M := (⟨"PolyRegistersModel", "usedShare", "()F"⟩, prog_12_method_135_code, 3, some FieldType.float, mj_look mj_l308, [], 1, 2077, 118, 2075, 2076)
-- 309: PolyRegistersModel.errors()I
def mj_l309_0 : List (Option mj_I) := [mj_o (.aload_n 0), mj_o (.iconst 0), mj_q (.putfield 49) 10 3 0 1486 0, mj_n, mj_n, mj_o (.iconst 0), mj_o (.istore_n 1), mj_o (.iconst 0), mj_o (.istore_n 2), mj_o (.iload_n 2), mj_o (.bipush 6), mj_n, mj_q (.if_icmp .ge 119) 131 0 0 0 0, mj_n, mj_n, mj_o (.iload_n 2), mj_o (.iconst 1), mj_o .iadd, mj_o (.istore_n 3), mj_o (.iload_n 3), mj_o (.bipush 6), mj_n, mj_q (.if_icmp .ge 103) 125 0 0 0 0, mj_n, mj_n, mj_o (.aload_n 0), mj_o (.iload_n 2), mj_q (.invokevirtual 232) 225 2 0 1687 10, mj_n, mj_n, mj_q (.ifCond .ne 89) 119 0 0 0 0, mj_n, mj_n, mj_o (.aload_n 0), mj_o (.iload_n 3), mj_q (.invokevirtual 232) 225 2 0 1687 10, mj_n, mj_n, mj_q (.ifCond .eq 6) 44 0 0 0 0, mj_n, mj_n, mj_q (.goto 78) 119 0 0 0 0, mj_n, mj_n, mj_o (.aload_n 0), mj_o (.sipush 652), mj_n, mj_n, mj_o (.aload_n 0), mj_q (.getfield 9) 10 0 0 1483 0, mj_n, mj_n, mj_o (.iload_n 2), mj_o (.bipush 13), mj_n, mj_o .imul, mj_o (.aload_n 0), mj_o (.iload_n 2), mj_q (.invokevirtual 185) 226 2 0 1691 10, mj_n, mj_n, mj_o .iadd, mj_o .laload, mj_q (.invokevirtual 45) 181 3 0 1478 10, mj_n, mj_n, mj_o (.aload_n 0), mj_o (.sipush 653), mj_n, mj_n, mj_o (.aload_n 0), mj_q (.getfield 9) 10 0 0 1483 0, mj_n, mj_n, mj_o (.iload_n 3), mj_o (.bipush 13), mj_n, mj_o .imul, mj_o (.aload_n 0), mj_o (.iload_n 3), mj_q (.invokevirtual 185) 226 2 0 1691 10, mj_n, mj_n, mj_o .iadd, mj_o .laload, mj_q (.invokevirtual 45) 181 3 0 1478 10, mj_n, mj_n, mj_o (.aload_n 0), mj_o (.sipush 654), mj_n, mj_n, mj_o (.sipush 652), mj_n, mj_n, mj_o (.sipush 653), mj_n, mj_n, mj_q (.invokevirtual 117) 189 4 0 1654 10, mj_n, mj_n, mj_o (.iload_n 1), mj_o (.aload_n 0), mj_o (.sipush 654), mj_n, mj_n, mj_q (.invokevirtual 68) 178 2 0 1573 10, mj_n, mj_n, mj_q (.ifCond .ne 7) 116 0 0 0 0, mj_n, mj_n, mj_o (.iconst 1), mj_q (.goto 4) 117 0 0 0 0, mj_n, mj_n, mj_o (.iconst 0), mj_o .iadd, mj_o (.istore_n 1), mj_o (.iinc 3 1)]
def mj_l309_1 : List (Option mj_I) := [mj_n, mj_n, mj_q (.goto (-103)) 19 0 0 0 0, mj_n, mj_n, mj_o (.iinc 2 1), mj_n, mj_n, mj_q (.goto (-119)) 9 0 0 0 0, mj_n, mj_n, mj_o (.iload_n 1), mj_o .ireturn]
def mj_l309 : List (Option mj_I) := mj_l309_0 ++ (mj_l309_1)
def mj_m309 : mj_M := (⟨"PolyRegistersModel", "errors", "()I"⟩, prog_12_method_136_code, 4, some FieldType.int, mj_look mj_l309, [], 1, 2082, 118, 2080, 2081)
-- 310: PolyRegistersLaw.add(LPolyRegisters;III[J)I
def mj_l310 : List (Option mj_I) := [mj_o (.aload 4), mj_n, mj_o (.iconst 0), mj_o (.aload_n 0), mj_o (.iload_n 1), mj_o (.iload_n 2), mj_o (.iload_n 3), mj_q (.invokevirtual 7) 102 4 0 810 9, mj_n, mj_n, mj_o .i2l, mj_o .lastore, mj_q (.goto 11) 23 0 0 0 0, mj_n, mj_n, mj_o (.astore 5), mj_n, mj_o (.iconst 1), mj_o .ireturn, mj_o (.astore 5), mj_n, mj_o (.iconst 2), mj_o .ireturn, mj_o (.iconst 0), mj_o .ireturn]
def mj_m310 : mj_M := (⟨"PolyRegistersLaw", "add", "(LPolyRegisters;III[J)I"⟩, method_3_code, 6, some FieldType.int, mj_look mj_l310, [(0, 12, 15, 13, 0, 5, 17), (0, 12, 19, 15, 1, 5, 21)], 0, 730, 107, 729, 0)
-- 311: PolyRegistersLaw.subtract(LPolyRegisters;III[J)I
def mj_l311 : List (Option mj_I) := [mj_o (.aload 4), mj_n, mj_o (.iconst 0), mj_o (.aload_n 0), mj_o (.iload_n 1), mj_o (.iload_n 2), mj_o (.iload_n 3), mj_q (.invokevirtual 17) 103 4 0 863 9, mj_n, mj_n, mj_o .i2l, mj_o .lastore, mj_q (.goto 11) 23 0 0 0 0, mj_n, mj_n, mj_o (.astore 5), mj_n, mj_o (.iconst 1), mj_o .ireturn, mj_o (.astore 5), mj_n, mj_o (.iconst 2), mj_o .ireturn, mj_o (.iconst 0), mj_o .ireturn]
def mj_m311 : mj_M := (⟨"PolyRegistersLaw", "subtract", "(LPolyRegisters;III[J)I"⟩, method_4_code, 6, some FieldType.int, mj_look mj_l311, [(0, 12, 15, 13, 0, 5, 17), (0, 12, 19, 15, 1, 5, 21)], 0, 862, 107, 861, 0)
-- 312: PolyRegistersLaw.multiply(LPolyRegisters;III[J)I
def mj_l312 : List (Option mj_I) := [mj_o (.aload 4), mj_n, mj_o (.iconst 0), mj_o (.aload_n 0), mj_o (.iload_n 1), mj_o (.iload_n 2), mj_o (.iload_n 3), mj_q (.invokevirtual 20) 104 4 0 870 9, mj_n, mj_n, mj_o .i2l, mj_o .lastore, mj_q (.goto 11) 23 0 0 0 0, mj_n, mj_n, mj_o (.astore 5), mj_n, mj_o (.iconst 1), mj_o .ireturn, mj_o (.astore 5), mj_n, mj_o (.iconst 2), mj_o .ireturn, mj_o (.iconst 0), mj_o .ireturn]
def mj_m312 : mj_M := (⟨"PolyRegistersLaw", "multiply", "(LPolyRegisters;III[J)I"⟩, method_5_code, 6, some FieldType.int, mj_look mj_l312, [(0, 12, 15, 13, 0, 5, 17), (0, 12, 19, 15, 1, 5, 21)], 0, 869, 107, 868, 0)
-- 313: PolyRegistersLaw.power(LPolyRegisters;III[J)I
def mj_l313 : List (Option mj_I) := [mj_o (.aload 4), mj_n, mj_o (.iconst 0), mj_o (.aload_n 0), mj_o (.iload_n 1), mj_o (.iload_n 2), mj_o (.iload_n 3), mj_q (.invokevirtual 23) 105 4 0 879 9, mj_n, mj_n, mj_o .i2l, mj_o .lastore, mj_q (.goto 15) 27 0 0 0 0, mj_n, mj_n, mj_o (.astore 5), mj_n, mj_o (.iconst 1), mj_o .ireturn, mj_o (.astore 5), mj_n, mj_o (.iconst 2), mj_o .ireturn, mj_o (.astore 5), mj_n, mj_o (.iconst 3), mj_o .ireturn, mj_o (.iconst 0), mj_o .ireturn]
def mj_m313 : mj_M := (⟨"PolyRegistersLaw", "power", "(LPolyRegisters;III[J)I"⟩, method_6_code, 6, some FieldType.int, mj_look mj_l313, [(0, 12, 15, 13, 0, 5, 17), (0, 12, 19, 26, 2, 5, 21), (0, 12, 23, 15, 1, 5, 25)], 0, 877, 107, 876, 0)
-- 314: PolyRegistersLaw.derive(LPolyRegisters;II[J)I
def mj_l314 : List (Option mj_I) := [mj_o (.aload_n 3), mj_o (.iconst 0), mj_o (.aload_n 0), mj_o (.iload_n 1), mj_o (.iload_n 2), mj_q (.invokevirtual 28) 106 3 0 905 9, mj_n, mj_n, mj_o .i2l, mj_o .lastore, mj_q (.goto 11) 21 0 0 0 0, mj_n, mj_n, mj_o (.astore 4), mj_n, mj_o (.iconst 1), mj_o .ireturn, mj_o (.astore 4), mj_n, mj_o (.iconst 2), mj_o .ireturn, mj_o (.iconst 0), mj_o .ireturn]
def mj_m314 : mj_M := (⟨"PolyRegistersLaw", "derive", "(LPolyRegisters;II[J)I"⟩, method_7_code, 5, some FieldType.int, mj_look mj_l314, [(0, 10, 13, 13, 0, 4, 15), (0, 10, 17, 15, 1, 4, 19)], 0, 904, 107, 903, 0)
-- 315: PolyRegistersLaw.substitute(LPolyRegisters;III[J)I
def mj_l315 : List (Option mj_I) := [mj_o (.aload 4), mj_n, mj_o (.iconst 0), mj_o (.aload_n 0), mj_o (.iload_n 1), mj_o (.iload_n 2), mj_o (.iload_n 3), mj_q (.invokevirtual 32) 107 4 0 916 9, mj_n, mj_n, mj_o .i2l, mj_o .lastore, mj_q (.goto 11) 23 0 0 0 0, mj_n, mj_n, mj_o (.astore 5), mj_n, mj_o (.iconst 1), mj_o .ireturn, mj_o (.astore 5), mj_n, mj_o (.iconst 2), mj_o .ireturn, mj_o (.iconst 0), mj_o .ireturn]
def mj_m315 : mj_M := (⟨"PolyRegistersLaw", "substitute", "(LPolyRegisters;III[J)I"⟩, method_8_code, 6, some FieldType.int, mj_look mj_l315, [(0, 12, 15, 13, 0, 5, 17), (0, 12, 19, 15, 1, 5, 21)], 0, 915, 107, 914, 0)
-- 316: PolyRegistersLaw.divide(LPolyRegisters;IIII[J)I
def mj_l316 : List (Option mj_I) := [mj_o (.aload 5), mj_n, mj_o (.iconst 0), mj_o (.aload_n 0), mj_o (.iload_n 1), mj_o (.iload_n 2), mj_o (.iload_n 3), mj_o (.iload 4), mj_n, mj_q (.invokevirtual 35) 108 5 0 941 9, mj_n, mj_n, mj_o .i2l, mj_o .lastore, mj_q (.goto 19) 33 0 0 0 0, mj_n, mj_n, mj_o (.astore 6), mj_n, mj_o (.iconst 1), mj_o .ireturn, mj_o (.astore 6), mj_n, mj_o (.iconst 2), mj_o .ireturn, mj_o (.astore 6), mj_n, mj_o (.iconst 3), mj_o .ireturn, mj_o (.astore 6), mj_n, mj_o (.iconst 4), mj_o .ireturn, mj_o (.iconst 0), mj_o .ireturn]
def mj_m316 : mj_M := (⟨"PolyRegistersLaw", "divide", "(LPolyRegisters;IIII[J)I"⟩, method_9_code, 7, some FieldType.int, mj_look mj_l316, [(0, 14, 17, 13, 0, 6, 19), (0, 14, 21, 26, 2, 6, 23), (0, 14, 25, 39, 3, 6, 27), (0, 14, 29, 15, 1, 6, 31)], 0, 926, 107, 925, 0)
-- 317: PolyRegistersLaw.gcd(LPolyRegisters;III[J)I
def mj_l317 : List (Option mj_I) := [mj_o (.aload 4), mj_n, mj_o (.iconst 0), mj_o (.aload_n 0), mj_o (.iload_n 1), mj_o (.iload_n 2), mj_o (.iload_n 3), mj_q (.invokevirtual 41) 109 4 0 970 9, mj_n, mj_n, mj_o .i2l, mj_o .lastore, mj_q (.goto 11) 23 0 0 0 0, mj_n, mj_n, mj_o (.astore 5), mj_n, mj_o (.iconst 1), mj_o .ireturn, mj_o (.astore 5), mj_n, mj_o (.iconst 2), mj_o .ireturn, mj_o (.iconst 0), mj_o .ireturn]
def mj_m317 : mj_M := (⟨"PolyRegistersLaw", "gcd", "(LPolyRegisters;III[J)I"⟩, method_10_code, 6, some FieldType.int, mj_look mj_l317, [(0, 12, 15, 13, 0, 5, 17), (0, 12, 19, 15, 1, 5, 21)], 0, 969, 107, 968, 0)
-- 318: PolyRegistersLaw.primitive(LPolyRegisters;II[J)I
def mj_l318 : List (Option mj_I) := [mj_o (.aload_n 3), mj_o (.iconst 0), mj_o (.aload_n 0), mj_o (.iload_n 1), mj_o (.iload_n 2), mj_q (.invokevirtual 44) 110 3 0 1096 9, mj_n, mj_n, mj_o .i2l, mj_o .lastore, mj_q (.goto 7) 17 0 0 0 0, mj_n, mj_n, mj_o (.astore 4), mj_n, mj_o (.iconst 1), mj_o .ireturn, mj_o (.iconst 0), mj_o .ireturn]
def mj_m318 : mj_M := (⟨"PolyRegistersLaw", "primitive", "(LPolyRegisters;II[J)I"⟩, method_11_code, 5, some FieldType.int, mj_look mj_l318, [(0, 10, 13, 13, 0, 4, 15)], 0, 1095, 107, 1094, 0)
-- 319: PolyRegistersLaw.simple(LPolyRegisters;II[J)I
def mj_l319 : List (Option mj_I) := [mj_o (.aload_n 3), mj_o (.iconst 0), mj_o (.aload_n 0), mj_o (.iload_n 1), mj_o (.iload_n 2), mj_q (.invokevirtual 47) 111 3 0 1104 9, mj_n, mj_n, mj_o .i2l, mj_o .lastore, mj_q (.goto 15) 25 0 0 0 0, mj_n, mj_n, mj_o (.astore 4), mj_n, mj_o (.iconst 1), mj_o .ireturn, mj_o (.astore 4), mj_n, mj_o (.iconst 2), mj_o .ireturn, mj_o (.astore 4), mj_n, mj_o (.iconst 3), mj_o .ireturn, mj_o (.iconst 0), mj_o .ireturn]
def mj_m319 : mj_M := (⟨"PolyRegistersLaw", "simple", "(LPolyRegisters;II[J)I"⟩, method_12_code, 5, some FieldType.int, mj_look mj_l319, [(0, 10, 13, 13, 0, 4, 15), (0, 10, 17, 39, 3, 4, 19), (0, 10, 21, 15, 1, 4, 23)], 0, 1103, 107, 1102, 0)
-- 320: PolyRegistersLaw.residue(LPolyRegisters;III[J)I
def mj_l320 : List (Option mj_I) := [mj_o (.aload 4), mj_n, mj_o (.iconst 0), mj_o (.aload_n 0), mj_o (.iload_n 1), mj_o (.iload_n 2), mj_o (.iload_n 3), mj_q (.invokevirtual 50) 112 4 0 1131 9, mj_n, mj_n, mj_o .i2l, mj_o .lastore, mj_q (.goto 11) 23 0 0 0 0, mj_n, mj_n, mj_o (.astore 5), mj_n, mj_o (.iconst 1), mj_o .ireturn, mj_o (.astore 5), mj_n, mj_o (.iconst 2), mj_o .ireturn, mj_o (.iconst 0), mj_o .ireturn]
def mj_m320 : mj_M := (⟨"PolyRegistersLaw", "residue", "(LPolyRegisters;III[J)I"⟩, method_13_code, 6, some FieldType.int, mj_look mj_l320, [(0, 12, 15, 13, 0, 5, 17), (0, 12, 19, 26, 2, 5, 21)], 0, 1130, 107, 1129, 0)
-- 321: PolyRegistersLaw.setTerm(LPolyRegisters;IIJ[J)I
def mj_l321 : List (Option mj_I) := [mj_o (.aload 5), mj_n, mj_o (.iconst 0), mj_o (.aload_n 0), mj_o (.iload_n 1), mj_o (.iload_n 2), mj_o (.lload_n 3), mj_q (.invokevirtual 53) 113 4 0 1144 9, mj_n, mj_n, mj_o .i2l, mj_o .lastore, mj_q (.goto 15) 27 0 0 0 0, mj_n, mj_n, mj_o (.astore 6), mj_n, mj_o (.iconst 1), mj_o .ireturn, mj_o (.astore 6), mj_n, mj_o (.iconst 2), mj_o .ireturn, mj_o (.astore 6), mj_n, mj_o (.iconst 3), mj_o .ireturn, mj_o (.iconst 0), mj_o .ireturn]
def mj_m321 : mj_M := (⟨"PolyRegistersLaw", "setTerm", "(LPolyRegisters;IIJ[J)I"⟩, method_14_code, 7, some FieldType.int, mj_look mj_l321, [(0, 12, 15, 13, 0, 6, 17), (0, 12, 19, 26, 2, 6, 21), (0, 12, 23, 15, 1, 6, 25)], 0, 1143, 107, 1142, 0)
-- 322: PolyRegistersLaw.read(LPolyRegisters;I[J)I
def mj_l322 : List (Option mj_I) := [mj_o (.aload_n 2), mj_o (.iconst 0), mj_o (.aload_n 0), mj_o (.iload_n 1), mj_q (.invokevirtual 57) 114 2 0 1151 9, mj_n, mj_n, mj_o .i2l, mj_o .lastore, mj_q (.goto 12) 21 0 0 0 0, mj_n, mj_n, mj_o (.astore_n 3), mj_o (.iconst 1), mj_o .ireturn, mj_o (.astore_n 3), mj_o (.iconst 2), mj_o .ireturn, mj_o (.astore_n 3), mj_o (.iconst 3), mj_o .ireturn, mj_o (.iconst 0), mj_o .ireturn]
def mj_m322 : mj_M := (⟨"PolyRegistersLaw", "read", "(LPolyRegisters;I[J)I"⟩, method_15_code, 4, some FieldType.int, mj_look mj_l322, [(0, 9, 12, 13, 0, 3, 13), (0, 9, 15, 26, 2, 3, 16), (0, 9, 18, 15, 1, 3, 19)], 0, 1150, 107, 1149, 0)
-- 323: PolyRegistersLaw.addPoint(LPolyRegisters;II[J)I
def mj_l323 : List (Option mj_I) := [mj_o (.aload_n 3), mj_o (.iconst 0), mj_o (.aload_n 0), mj_o (.iload_n 1), mj_o (.iload_n 2), mj_q (.invokevirtual 61) 115 3 0 1158 9, mj_n, mj_n, mj_o .i2l, mj_o .lastore, mj_q (.goto 11) 21 0 0 0 0, mj_n, mj_n, mj_o (.astore 4), mj_n, mj_o (.iconst 1), mj_o .ireturn, mj_o (.astore 4), mj_n, mj_o (.iconst 2), mj_o .ireturn, mj_o (.iconst 0), mj_o .ireturn]
def mj_m323 : mj_M := (⟨"PolyRegistersLaw", "addPoint", "(LPolyRegisters;II[J)I"⟩, method_16_code, 5, some FieldType.int, mj_look mj_l323, [(0, 10, 13, 26, 2, 4, 15), (0, 10, 17, 15, 1, 4, 19)], 0, 1157, 107, 1156, 0)
-- 324: PolyRegistersLaw.interpolate(LPolyRegisters;I[J)I
def mj_l324 : List (Option mj_I) := [mj_o (.aload_n 2), mj_o (.iconst 0), mj_o (.aload_n 0), mj_o (.iload_n 1), mj_q (.invokevirtual 64) 117 2 0 1170 9, mj_n, mj_n, mj_o .lastore, mj_q (.goto 9) 17 0 0 0 0, mj_n, mj_n, mj_o (.astore_n 3), mj_o (.iconst 1), mj_o .ireturn, mj_o (.astore_n 3), mj_o (.iconst 2), mj_o .ireturn, mj_o (.iconst 0), mj_o .ireturn]
def mj_m324 : mj_M := (⟨"PolyRegistersLaw", "interpolate", "(LPolyRegisters;I[J)I"⟩, method_17_code, 4, some FieldType.int, mj_look mj_l324, [(0, 8, 11, 13, 0, 3, 12), (0, 8, 14, 15, 1, 3, 15)], 0, 1169, 107, 1168, 0)
-- 325: PolyRegistersLaw.degree(LPolyRegisters;I[J)I
def mj_l325 : List (Option mj_I) := [mj_o (.aload_n 2), mj_o (.iconst 0), mj_o (.aload_n 0), mj_o (.iload_n 1), mj_q (.invokevirtual 68) 119 2 0 1200 9, mj_n, mj_n, mj_o .i2l, mj_o .lastore, mj_q (.goto 6) 15 0 0 0 0, mj_n, mj_n, mj_o (.astore_n 3), mj_o (.iconst 1), mj_o .ireturn, mj_o (.iconst 0), mj_o .ireturn]
def mj_m325 : mj_M := (⟨"PolyRegistersLaw", "degree", "(LPolyRegisters;I[J)I"⟩, method_18_code, 4, some FieldType.int, mj_look mj_l325, [(0, 9, 12, 13, 0, 3, 13)], 0, 1199, 107, 1198, 0)
-- 326: PolyRegistersLaw.terms(LPolyRegisters;I[J)I
def mj_l326 : List (Option mj_I) := [mj_o (.aload_n 2), mj_o (.iconst 0), mj_o (.aload_n 0), mj_o (.iload_n 1), mj_q (.invokevirtual 71) 120 2 0 1207 9, mj_n, mj_n, mj_o .i2l, mj_o .lastore, mj_q (.goto 6) 15 0 0 0 0, mj_n, mj_n, mj_o (.astore_n 3), mj_o (.iconst 1), mj_o .ireturn, mj_o (.iconst 0), mj_o .ireturn]
def mj_m326 : mj_M := (⟨"PolyRegistersLaw", "terms", "(LPolyRegisters;I[J)I"⟩, method_19_code, 4, some FieldType.int, mj_look mj_l326, [(0, 9, 12, 13, 0, 3, 13)], 0, 1206, 107, 1205, 0)
-- 327: PolyRegistersLaw.exponent(LPolyRegisters;II[J)I
def mj_l327 : List (Option mj_I) := [mj_o (.aload_n 3), mj_o (.iconst 0), mj_o (.aload_n 0), mj_o (.iload_n 1), mj_o (.iload_n 2), mj_q (.invokevirtual 74) 121 3 0 1214 9, mj_n, mj_n, mj_o .i2l, mj_o .lastore, mj_q (.goto 7) 17 0 0 0 0, mj_n, mj_n, mj_o (.astore 4), mj_n, mj_o (.iconst 1), mj_o .ireturn, mj_o (.iconst 0), mj_o .ireturn]
def mj_m327 : mj_M := (⟨"PolyRegistersLaw", "exponent", "(LPolyRegisters;II[J)I"⟩, method_20_code, 5, some FieldType.int, mj_look mj_l327, [(0, 10, 13, 13, 0, 4, 15)], 0, 1213, 107, 1212, 0)
-- 328: PolyRegistersLaw.coefficient(LPolyRegisters;II[J)I
def mj_l328 : List (Option mj_I) := [mj_o (.aload_n 3), mj_o (.iconst 0), mj_o (.aload_n 0), mj_o (.iload_n 1), mj_o (.iload_n 2), mj_q (.invokevirtual 77) 122 3 0 1221 9, mj_n, mj_n, mj_o .i2l, mj_o .lastore, mj_q (.goto 11) 21 0 0 0 0, mj_n, mj_n, mj_o (.astore 4), mj_n, mj_o (.iconst 1), mj_o .ireturn, mj_o (.astore 4), mj_n, mj_o (.iconst 2), mj_o .ireturn, mj_o (.iconst 0), mj_o .ireturn]
def mj_m328 : mj_M := (⟨"PolyRegistersLaw", "coefficient", "(LPolyRegisters;II[J)I"⟩, method_21_code, 5, some FieldType.int, mj_look mj_l328, [(0, 10, 13, 13, 0, 4, 15), (0, 10, 17, 26, 2, 4, 19)], 0, 1220, 107, 1219, 0)
-- 329: PolyRegistersLaw.content(LPolyRegisters;I[J)I
def mj_l329 : List (Option mj_I) := [mj_o (.aload_n 2), mj_o (.iconst 0), mj_o (.aload_n 0), mj_o (.iload_n 1), mj_q (.invokevirtual 80) 123 2 0 1232 9, mj_n, mj_n, mj_o .i2l, mj_o .lastore, mj_q (.goto 6) 15 0 0 0 0, mj_n, mj_n, mj_o (.astore_n 3), mj_o (.iconst 1), mj_o .ireturn, mj_o (.iconst 0), mj_o .ireturn]
def mj_m329 : mj_M := (⟨"PolyRegistersLaw", "content", "(LPolyRegisters;I[J)I"⟩, method_22_code, 4, some FieldType.int, mj_look mj_l329, [(0, 9, 12, 13, 0, 3, 13)], 0, 1231, 107, 1230, 0)
-- 330: PolyRegistersLaw.value(LPolyRegisters;III[J)I
def mj_l330 : List (Option mj_I) := [mj_o (.aload 4), mj_n, mj_o (.iconst 0), mj_o (.aload_n 0), mj_o (.iload_n 1), mj_o (.iload_n 2), mj_o (.iload_n 3), mj_q (.invokevirtual 83) 124 4 0 1239 9, mj_n, mj_n, mj_o .i2l, mj_o .lastore, mj_q (.goto 11) 23 0 0 0 0, mj_n, mj_n, mj_o (.astore 5), mj_n, mj_o (.iconst 1), mj_o .ireturn, mj_o (.astore 5), mj_n, mj_o (.iconst 2), mj_o .ireturn, mj_o (.iconst 0), mj_o .ireturn]
def mj_m330 : mj_M := (⟨"PolyRegistersLaw", "value", "(LPolyRegisters;III[J)I"⟩, method_23_code, 6, some FieldType.int, mj_look mj_l330, [(0, 12, 15, 13, 0, 5, 17), (0, 12, 19, 26, 2, 5, 21)], 0, 1238, 107, 1237, 0)
-- 331: PolyRegistersLaw.divides(LPolyRegisters;II[J)I
def mj_l331 : List (Option mj_I) := [mj_o (.aload_n 3), mj_o (.iconst 0), mj_o (.aload_n 0), mj_o (.iload_n 1), mj_o (.iload_n 2), mj_q (.invokevirtual 86) 125 3 0 1272 9, mj_n, mj_n, mj_q (.ifCond .eq 7) 15 0 0 0 0, mj_n, mj_n, mj_o (.lconst 1), mj_q (.goto 4) 16 0 0 0 0, mj_n, mj_n, mj_o (.lconst 0), mj_o .lastore, mj_q (.goto 7) 24 0 0 0 0, mj_n, mj_n, mj_o (.astore 4), mj_n, mj_o (.iconst 1), mj_o .ireturn, mj_o (.iconst 0), mj_o .ireturn]
def mj_m331 : mj_M := (⟨"PolyRegistersLaw", "divides", "(LPolyRegisters;II[J)I"⟩, method_24_code, 5, some FieldType.int, mj_look mj_l331, [(0, 17, 20, 13, 0, 4, 22)], 0, 1271, 107, 1270, 0)
-- 332: PolyRegistersLaw.areSame(LPolyRegisters;II[J)I
def mj_l332 : List (Option mj_I) := [mj_o (.aload_n 3), mj_o (.iconst 0), mj_o (.aload_n 0), mj_o (.iload_n 1), mj_o (.iload_n 2), mj_q (.invokevirtual 90) 126 3 0 1284 9, mj_n, mj_n, mj_q (.ifCond .eq 7) 15 0 0 0 0, mj_n, mj_n, mj_o (.lconst 1), mj_q (.goto 4) 16 0 0 0 0, mj_n, mj_n, mj_o (.lconst 0), mj_o .lastore, mj_q (.goto 7) 24 0 0 0 0, mj_n, mj_n, mj_o (.astore 4), mj_n, mj_o (.iconst 1), mj_o .ireturn, mj_o (.iconst 0), mj_o .ireturn]
def mj_m332 : mj_M := (⟨"PolyRegistersLaw", "areSame", "(LPolyRegisters;II[J)I"⟩, method_25_code, 5, some FieldType.int, mj_look mj_l332, [(0, 17, 20, 13, 0, 4, 22)], 0, 1283, 107, 1282, 0)
-- 333: PolyRegistersLaw.agreements(LPolyRegisters;II[J)I
def mj_l333 : List (Option mj_I) := [mj_o (.aload_n 3), mj_o (.iconst 0), mj_o (.aload_n 0), mj_o (.iload_n 1), mj_o (.iload_n 2), mj_q (.invokevirtual 93) 127 3 0 1291 9, mj_n, mj_n, mj_o .i2l, mj_o .lastore, mj_q (.goto 7) 17 0 0 0 0, mj_n, mj_n, mj_o (.astore 4), mj_n, mj_o (.iconst 1), mj_o .ireturn, mj_o (.iconst 0), mj_o .ireturn]
def mj_m333 : mj_M := (⟨"PolyRegistersLaw", "agreements", "(LPolyRegisters;II[J)I"⟩, method_26_code, 5, some FieldType.int, mj_look mj_l333, [(0, 10, 13, 13, 0, 4, 15)], 0, 1290, 107, 1289, 0)
-- 334: PolyRegistersLaw.digit(LPolyRegisters;ZI[J)I
def mj_l334 : List (Option mj_I) := [mj_o (.aload_n 3), mj_o (.iconst 0), mj_o (.aload_n 0), mj_o (.iload_n 1), mj_o (.iload_n 2), mj_q (.invokevirtual 96) 129 3 0 1298 9, mj_n, mj_n, mj_o .i2l, mj_o .lastore, mj_q (.goto 7) 17 0 0 0 0, mj_n, mj_n, mj_o (.astore 4), mj_n, mj_o (.iconst 1), mj_o .ireturn, mj_o (.iconst 0), mj_o .ireturn]
def mj_m334 : mj_M := (⟨"PolyRegistersLaw", "digit", "(LPolyRegisters;ZI[J)I"⟩, method_27_code, 5, some FieldType.int, mj_look mj_l334, [(0, 10, 13, 13, 0, 4, 15)], 0, 1297, 107, 1296, 0)
-- 335: PolyRegistersLaw.realRoots(LPolyRegisters;I[J)I
def mj_l335 : List (Option mj_I) := [mj_o (.aload_n 2), mj_o (.iconst 0), mj_o (.aload_n 0), mj_o (.iload_n 1), mj_q (.invokevirtual 100) 131 2 0 1309 9, mj_n, mj_n, mj_o .i2l, mj_o .lastore, mj_q (.goto 9) 18 0 0 0 0, mj_n, mj_n, mj_o (.astore_n 3), mj_o (.iconst 1), mj_o .ireturn, mj_o (.astore_n 3), mj_o (.iconst 2), mj_o .ireturn, mj_o (.iconst 0), mj_o .ireturn]
def mj_m335 : mj_M := (⟨"PolyRegistersLaw", "realRoots", "(LPolyRegisters;I[J)I"⟩, method_28_code, 4, some FieldType.int, mj_look mj_l335, [(0, 9, 12, 13, 0, 3, 13), (0, 9, 15, 39, 3, 3, 16)], 0, 1308, 107, 1307, 0)
-- 336: PolyRegistersLaw.rootsBetween(LPolyRegisters;IIIII[J)I
def mj_l336 : List (Option mj_I) := [mj_o (.aload 6), mj_n, mj_o (.iconst 0), mj_o (.aload_n 0), mj_o (.iload_n 1), mj_o (.iload_n 2), mj_o (.iload_n 3), mj_o (.iload 4), mj_n, mj_o (.iload 5), mj_n, mj_q (.invokevirtual 103) 132 6 0 1327 9, mj_n, mj_n, mj_o .i2l, mj_o .lastore, mj_q (.goto 19) 35 0 0 0 0, mj_n, mj_n, mj_o (.astore 7), mj_n, mj_o (.iconst 1), mj_o .ireturn, mj_o (.astore 7), mj_n, mj_o (.iconst 2), mj_o .ireturn, mj_o (.astore 7), mj_n, mj_o (.iconst 3), mj_o .ireturn, mj_o (.astore 7), mj_n, mj_o (.iconst 4), mj_o .ireturn, mj_o (.iconst 0), mj_o .ireturn]
def mj_m336 : mj_M := (⟨"PolyRegistersLaw", "rootsBetween", "(LPolyRegisters;IIIII[J)I"⟩, method_29_code, 8, some FieldType.int, mj_look mj_l336, [(0, 16, 19, 13, 0, 7, 21), (0, 16, 23, 26, 2, 7, 25), (0, 16, 27, 39, 3, 7, 29), (0, 16, 31, 15, 1, 7, 33)], 0, 1326, 107, 1325, 0)
-- 337: PolyRegistersLaw.sturmLength(LPolyRegisters;I[J)I
def mj_l337 : List (Option mj_I) := [mj_o (.aload_n 2), mj_o (.iconst 0), mj_o (.aload_n 0), mj_o (.iload_n 1), mj_q (.invokevirtual 107) 133 2 0 1348 9, mj_n, mj_n, mj_o .i2l, mj_o .lastore, mj_q (.goto 9) 18 0 0 0 0, mj_n, mj_n, mj_o (.astore_n 3), mj_o (.iconst 1), mj_o .ireturn, mj_o (.astore_n 3), mj_o (.iconst 2), mj_o .ireturn, mj_o (.iconst 0), mj_o .ireturn]
def mj_m337 : mj_M := (⟨"PolyRegistersLaw", "sturmLength", "(LPolyRegisters;I[J)I"⟩, method_30_code, 4, some FieldType.int, mj_look mj_l337, [(0, 9, 12, 13, 0, 3, 13), (0, 9, 15, 39, 3, 3, 16)], 0, 1347, 107, 1346, 0)
-- 338: PolyRegistersLaw.changes(LPolyRegisters;III[J)I
def mj_l338 : List (Option mj_I) := [mj_o (.aload 4), mj_n, mj_o (.iconst 0), mj_o (.aload_n 0), mj_o (.iload_n 1), mj_o (.iload_n 2), mj_o (.iload_n 3), mj_q (.invokevirtual 110) 134 4 0 1355 9, mj_n, mj_n, mj_o .i2l, mj_o .lastore, mj_q (.goto 15) 27 0 0 0 0, mj_n, mj_n, mj_o (.astore 5), mj_n, mj_o (.iconst 1), mj_o .ireturn, mj_o (.astore 5), mj_n, mj_o (.iconst 2), mj_o .ireturn, mj_o (.astore 5), mj_n, mj_o (.iconst 3), mj_o .ireturn, mj_o (.iconst 0), mj_o .ireturn]
def mj_m338 : mj_M := (⟨"PolyRegistersLaw", "changes", "(LPolyRegisters;III[J)I"⟩, method_31_code, 6, some FieldType.int, mj_look mj_l338, [(0, 12, 15, 13, 0, 5, 17), (0, 12, 19, 26, 2, 5, 21), (0, 12, 23, 39, 3, 5, 25)], 0, 1354, 107, 1353, 0)
-- 339: PolyRegistersLaw.closeIn(LPolyRegisters;III[J)I
def mj_l339 : List (Option mj_I) := [mj_o (.aload 4), mj_n, mj_o (.iconst 0), mj_o (.aload_n 0), mj_o (.iload_n 1), mj_o (.iload_n 2), mj_o (.iload_n 3), mj_q (.invokevirtual 113) 135 4 0 1362 9, mj_n, mj_n, mj_o .i2l, mj_o .lastore, mj_q (.goto 11) 23 0 0 0 0, mj_n, mj_n, mj_o (.astore 5), mj_n, mj_o (.iconst 1), mj_o .ireturn, mj_o (.astore 5), mj_n, mj_o (.iconst 2), mj_o .ireturn, mj_o (.iconst 0), mj_o .ireturn]
def mj_m339 : mj_M := (⟨"PolyRegistersLaw", "closeIn", "(LPolyRegisters;III[J)I"⟩, method_32_code, 6, some FieldType.int, mj_look mj_l339, [(0, 12, 15, 13, 0, 5, 17), (0, 12, 19, 26, 2, 5, 21)], 0, 1361, 107, 1360, 0)
-- 340: PolyRegistersLaw.fractionRoots(LPolyRegisters;I[J)I
def mj_l340 : List (Option mj_I) := [mj_o (.aload_n 2), mj_o (.iconst 0), mj_o (.aload_n 0), mj_o (.iload_n 1), mj_q (.invokevirtual 116) 136 2 0 1388 9, mj_n, mj_n, mj_o .i2l, mj_o .lastore, mj_q (.goto 9) 18 0 0 0 0, mj_n, mj_n, mj_o (.astore_n 3), mj_o (.iconst 1), mj_o .ireturn, mj_o (.astore_n 3), mj_o (.iconst 2), mj_o .ireturn, mj_o (.iconst 0), mj_o .ireturn]
def mj_m340 : mj_M := (⟨"PolyRegistersLaw", "fractionRoots", "(LPolyRegisters;I[J)I"⟩, method_33_code, 4, some FieldType.int, mj_look mj_l340, [(0, 9, 12, 13, 0, 3, 13), (0, 9, 15, 39, 3, 3, 16)], 0, 1387, 107, 1386, 0)
-- 341: PolyRegistersLaw.fractionRoot(LPolyRegisters;II[J)I
def mj_l341 : List (Option mj_I) := [mj_o (.aload_n 3), mj_o (.iconst 0), mj_o (.aload_n 0), mj_o (.iload_n 1), mj_o (.iload_n 2), mj_q (.invokevirtual 119) 137 3 0 1401 9, mj_n, mj_n, mj_o .i2l, mj_o .lastore, mj_q (.goto 7) 17 0 0 0 0, mj_n, mj_n, mj_o (.astore 4), mj_n, mj_o (.iconst 1), mj_o .ireturn, mj_o (.iconst 0), mj_o .ireturn]
def mj_m341 : mj_M := (⟨"PolyRegistersLaw", "fractionRoot", "(LPolyRegisters;II[J)I"⟩, method_34_code, 5, some FieldType.int, mj_look mj_l341, [(0, 10, 13, 13, 0, 4, 15)], 0, 1400, 107, 1399, 0)
-- 342: PolyRegistersLaw.rootsBy(LPolyRegisters;II[J)I
def mj_l342 : List (Option mj_I) := [mj_o (.aload_n 3), mj_o (.iconst 0), mj_o (.aload_n 0), mj_o (.iload_n 1), mj_o (.iload_n 2), mj_q (.invokevirtual 122) 138 3 0 1408 9, mj_n, mj_n, mj_o .i2l, mj_o .lastore, mj_q (.goto 11) 21 0 0 0 0, mj_n, mj_n, mj_o (.astore 4), mj_n, mj_o (.iconst 1), mj_o .ireturn, mj_o (.astore 4), mj_n, mj_o (.iconst 2), mj_o .ireturn, mj_o (.iconst 0), mj_o .ireturn]
def mj_m342 : mj_M := (⟨"PolyRegistersLaw", "rootsBy", "(LPolyRegisters;II[J)I"⟩, method_35_code, 5, some FieldType.int, mj_look mj_l342, [(0, 10, 13, 13, 0, 4, 15), (0, 10, 17, 26, 2, 4, 19)], 0, 1407, 107, 1406, 0)
-- 343: PolyRegistersLaw.rootBy(LPolyRegisters;II[J)I
def mj_l343 : List (Option mj_I) := [mj_o (.aload_n 3), mj_o (.iconst 0), mj_o (.aload_n 0), mj_o (.iload_n 1), mj_o (.iload_n 2), mj_q (.invokevirtual 125) 139 3 0 1419 9, mj_n, mj_n, mj_o .i2l, mj_o .lastore, mj_q (.goto 15) 25 0 0 0 0, mj_n, mj_n, mj_o (.astore 4), mj_n, mj_o (.iconst 1), mj_o .ireturn, mj_o (.astore 4), mj_n, mj_o (.iconst 2), mj_o .ireturn, mj_o (.astore 4), mj_n, mj_o (.iconst 3), mj_o .ireturn, mj_o (.iconst 0), mj_o .ireturn]
def mj_m343 : mj_M := (⟨"PolyRegistersLaw", "rootBy", "(LPolyRegisters;II[J)I"⟩, method_36_code, 5, some FieldType.int, mj_look mj_l343, [(0, 10, 13, 13, 0, 4, 15), (0, 10, 17, 26, 2, 4, 19), (0, 10, 21, 128, 4, 4, 23)], 0, 1417, 107, 1416, 0)
-- 344: PolyRegistersLaw.append(LPolyRegisters;IIIII[J)I
def mj_l344 : List (Option mj_I) := [mj_o (.aload 6), mj_n, mj_o (.iconst 0), mj_o (.aload_n 0), mj_o (.iload_n 1), mj_o (.iload_n 2), mj_o (.iload_n 3), mj_o (.iload 4), mj_n, mj_o (.iload 5), mj_n, mj_q (.invokevirtual 130) 141 6 0 1441 9, mj_n, mj_n, mj_o .i2l, mj_o .lastore, mj_q (.goto 7) 23 0 0 0 0, mj_n, mj_n, mj_o (.astore 7), mj_n, mj_o (.iconst 1), mj_o .ireturn, mj_o (.iconst 0), mj_o .ireturn]
def mj_m344 : mj_M := (⟨"PolyRegistersLaw", "append", "(LPolyRegisters;IIIII[J)I"⟩, method_37_code, 8, some FieldType.int, mj_look mj_l344, [(0, 16, 19, 15, 1, 7, 21)], 0, 1440, 107, 1439, 0)
-- 345: PolyRegistersLaw.write(LPolyRegisters;I[J)I
def mj_l345 : List (Option mj_I) := [mj_o (.aload_n 2), mj_o (.iconst 0), mj_o (.aload_n 0), mj_o (.iload_n 1), mj_q (.invokevirtual 133) 144 2 0 1455 9, mj_n, mj_n, mj_o .i2l, mj_o .lastore, mj_q (.goto 6) 15 0 0 0 0, mj_n, mj_n, mj_o (.astore_n 3), mj_o (.iconst 1), mj_o .ireturn, mj_o (.iconst 0), mj_o .ireturn]
def mj_m345 : mj_M := (⟨"PolyRegistersLaw", "write", "(LPolyRegisters;I[J)I"⟩, method_38_code, 4, some FieldType.int, mj_look mj_l345, [(0, 9, 12, 13, 0, 3, 13)], 0, 1454, 107, 1453, 0)
-- 346: PolyRegistersLaw.writtenAt(LPolyRegisters;I[J)I
def mj_l346 : List (Option mj_I) := [mj_o (.aload_n 2), mj_o (.iconst 0), mj_o (.aload_n 0), mj_o (.iload_n 1), mj_q (.invokevirtual 136) 145 2 0 1462 9, mj_n, mj_n, mj_o .i2l, mj_o .lastore, mj_q (.goto 6) 15 0 0 0 0, mj_n, mj_n, mj_o (.astore_n 3), mj_o (.iconst 1), mj_o .ireturn, mj_o (.iconst 0), mj_o .ireturn]
def mj_m346 : mj_M := (⟨"PolyRegistersLaw", "writtenAt", "(LPolyRegisters;I[J)I"⟩, method_39_code, 4, some FieldType.int, mj_look mj_l346, [(0, 9, 12, 13, 0, 3, 13)], 0, 1461, 107, 1460, 0)
-- the law
def mj_lL_0 : List (Option mj_I) := [mj_q (.new 8) 9 0 0 131 0, mj_n, mj_n, mj_o .dup, mj_q (.invokespecial 139) 101 1 0 133 0, mj_n, mj_n, mj_o (.astore_n 1), mj_q (.new 140) 10 0 0 1467 0, mj_n, mj_n, mj_o .dup, mj_q (.invokespecial 142) 174 1 0 1469 0, mj_n, mj_n, mj_o (.astore_n 2), mj_o (.iconst 1), mj_q (.newarray .long) 1 0 0 162 0, mj_n, mj_o (.astore_n 3), mj_o (.iconst 0), mj_o (.istore 4), mj_n, mj_o (.iload 4), mj_n, mj_o (.aload_n 0), mj_o .arraylength, mj_o (.bipush 6), mj_n, mj_o .isub, mj_q (.if_icmp .gt 3150) 3180 0 0 0 0, mj_n, mj_n, mj_o (.aload_n 0), mj_o (.iload 4), mj_n, mj_o .iaload, mj_o (.bipush 63), mj_n, mj_o .iand, mj_q (.tableswitch 3134 0 46 #[204, 284, 364, 444, 524, 592, 672, 764, 844, 912, 980, 1060, 1172, 1228, 1296, 1309, 1364, 1377, 1433, 1489, 1557, 1625, 1681, 1761, 1836, 1911, 1979, 2020, 2104, 2146, 2202, 2306, 2362, 2442, 2522, 2578, 2646, 2714, 2782, 2795, 2899, 2912, 2925, 2981, 3037, 3078, 3121]) 204 0 0 0 0, mj_n, mj_n, mj_n, mj_n, mj_n, mj_n, mj_n, mj_n, mj_n, mj_n, mj_n, mj_n, mj_n, mj_n, mj_n, mj_n, mj_n, mj_n, mj_n, mj_n, mj_n, mj_n, mj_n, mj_n, mj_n, mj_n, mj_n, mj_n, mj_n, mj_n, mj_n, mj_n, mj_n, mj_n, mj_n, mj_n, mj_n, mj_n, mj_n, mj_n, mj_n, mj_n, mj_n, mj_n, mj_n, mj_n, mj_n, mj_n, mj_n, mj_n, mj_n, mj_n, mj_n, mj_n, mj_n, mj_n, mj_n, mj_n, mj_n, mj_n, mj_n, mj_n, mj_n, mj_n, mj_n, mj_n, mj_n, mj_n, mj_n, mj_n, mj_n, mj_n, mj_n, mj_n, mj_n, mj_n, mj_n, mj_n, mj_n]
def mj_lL_1 : List (Option mj_I) := [mj_n, mj_n, mj_n, mj_n, mj_n, mj_n, mj_n, mj_n, mj_n, mj_n, mj_n, mj_n, mj_n, mj_n, mj_n, mj_n, mj_n, mj_n, mj_n, mj_n, mj_n, mj_n, mj_n, mj_n, mj_n, mj_n, mj_n, mj_n, mj_n, mj_n, mj_n, mj_n, mj_n, mj_n, mj_n, mj_n, mj_n, mj_n, mj_n, mj_n, mj_n, mj_n, mj_n, mj_n, mj_n, mj_n, mj_n, mj_n, mj_n, mj_n, mj_n, mj_n, mj_n, mj_n, mj_n, mj_n, mj_n, mj_n, mj_n, mj_n, mj_n, mj_n, mj_n, mj_n, mj_n, mj_n, mj_n, mj_n, mj_n, mj_n, mj_n, mj_n, mj_n, mj_n, mj_n, mj_n, mj_n, mj_n, mj_n, mj_n, mj_n, mj_n, mj_n, mj_n, mj_n, mj_n, mj_n, mj_n, mj_n, mj_n, mj_n, mj_n, mj_n, mj_n, mj_n, mj_n, mj_n, mj_n, mj_n, mj_n, mj_n, mj_n, mj_n, mj_n, mj_n, mj_n, mj_n, mj_n, mj_n, mj_n, mj_n, mj_n, mj_n, mj_n, mj_n, mj_n, mj_n, mj_n, mj_n, mj_n]
def mj_lL_2 : List (Option mj_I) := [mj_n, mj_n, mj_n, mj_n, mj_o (.aload_n 1), mj_o (.aload_n 0), mj_o (.iload 4), mj_n, mj_o (.iconst 1), mj_o .iadd, mj_o .iaload, mj_o (.aload_n 0), mj_o (.iload 4), mj_n, mj_o (.iconst 2), mj_o .iadd, mj_o .iaload, mj_o (.aload_n 0), mj_o (.iload 4), mj_n, mj_o (.iconst 3), mj_o .iadd, mj_o .iaload, mj_o (.aload_n 3), mj_q (.invokestatic 143) 310 5 0 728 0, mj_n, mj_n, mj_o (.istore 5), mj_n, mj_o (.aload_n 2), mj_o (.aload_n 0), mj_o (.iload 4), mj_n, mj_o (.iconst 1), mj_o .iadd, mj_o .iaload, mj_o (.aload_n 0), mj_o (.iload 4), mj_n, mj_o (.iconst 2), mj_o .iadd, mj_o .iaload, mj_o (.aload_n 0), mj_o (.iload 4), mj_n, mj_o (.iconst 3), mj_o .iadd, mj_o .iaload, mj_q (.invokevirtual 148) 230 4 0 1536 10, mj_n, mj_n, mj_o (.istore 6), mj_n, mj_o (.aload_n 2), mj_q (.invokevirtual 149) 175 1 0 1532 10, mj_n, mj_n, mj_o (.iload 5), mj_n, mj_q (.if_icmp .eq 5) 304 0 0 0 0, mj_n, mj_n, mj_o (.iconst 0), mj_o .ireturn, mj_o (.iload 5), mj_n, mj_q (.ifCond .ne 15) 321 0 0 0 0, mj_n, mj_n, mj_o (.aload_n 3), mj_o (.iconst 0), mj_o .laload, mj_o (.iload 6), mj_n, mj_o .i2l, mj_o .lcmp, mj_q (.ifCond .eq 5) 321 0 0 0 0, mj_n, mj_n, mj_o (.iconst 0), mj_o .ireturn, mj_q (.goto 2853) 3174 0 0 0 0, mj_n, mj_n, mj_o (.aload_n 1), mj_o (.aload_n 0), mj_o (.iload 4), mj_n, mj_o (.iconst 1), mj_o .iadd, mj_o .iaload, mj_o (.aload_n 0), mj_o (.iload 4), mj_n, mj_o (.iconst 2), mj_o .iadd, mj_o .iaload, mj_o (.aload_n 0), mj_o (.iload 4), mj_n, mj_o (.iconst 3), mj_o .iadd, mj_o .iaload, mj_o (.aload_n 3), mj_q (.invokestatic 153) 311 5 0 860 0, mj_n, mj_n, mj_o (.istore 5), mj_n, mj_o (.aload_n 2), mj_o (.aload_n 0), mj_o (.iload 4), mj_n, mj_o (.iconst 1), mj_o .iadd, mj_o .iaload, mj_o (.aload_n 0), mj_o (.iload 4), mj_n, mj_o (.iconst 2)]
def mj_lL_3 : List (Option mj_I) := [mj_o .iadd, mj_o .iaload, mj_o (.aload_n 0), mj_o (.iload 4), mj_n, mj_o (.iconst 3), mj_o .iadd, mj_o .iaload, mj_q (.invokevirtual 155) 231 4 0 1634 10, mj_n, mj_n, mj_o (.istore 6), mj_n, mj_o (.aload_n 2), mj_q (.invokevirtual 149) 175 1 0 1532 10, mj_n, mj_n, mj_o (.iload 5), mj_n, mj_q (.if_icmp .eq 5) 384 0 0 0 0, mj_n, mj_n, mj_o (.iconst 0), mj_o .ireturn, mj_o (.iload 5), mj_n, mj_q (.ifCond .ne 15) 401 0 0 0 0, mj_n, mj_n, mj_o (.aload_n 3), mj_o (.iconst 0), mj_o .laload, mj_o (.iload 6), mj_n, mj_o .i2l, mj_o .lcmp, mj_q (.ifCond .eq 5) 401 0 0 0 0, mj_n, mj_n, mj_o (.iconst 0), mj_o .ireturn, mj_q (.goto 2773) 3174 0 0 0 0, mj_n, mj_n, mj_o (.aload_n 1), mj_o (.aload_n 0), mj_o (.iload 4), mj_n, mj_o (.iconst 1), mj_o .iadd, mj_o .iaload, mj_o (.aload_n 0), mj_o (.iload 4), mj_n, mj_o (.iconst 2), mj_o .iadd, mj_o .iaload, mj_o (.aload_n 0), mj_o (.iload 4), mj_n, mj_o (.iconst 3), mj_o .iadd, mj_o .iaload, mj_o (.aload_n 3), mj_q (.invokestatic 156) 312 5 0 867 0, mj_n, mj_n, mj_o (.istore 5), mj_n, mj_o (.aload_n 2), mj_o (.aload_n 0), mj_o (.iload 4), mj_n, mj_o (.iconst 1), mj_o .iadd, mj_o .iaload, mj_o (.aload_n 0), mj_o (.iload 4), mj_n, mj_o (.iconst 2), mj_o .iadd, mj_o .iaload, mj_o (.aload_n 0), mj_o (.iload 4), mj_n, mj_o (.iconst 3), mj_o .iadd, mj_o .iaload, mj_q (.invokevirtual 158) 233 4 0 1638 10, mj_n, mj_n, mj_o (.istore 6), mj_n, mj_o (.aload_n 2), mj_q (.invokevirtual 149) 175 1 0 1532 10, mj_n, mj_n, mj_o (.iload 5), mj_n, mj_q (.if_icmp .eq 5) 464 0 0 0 0, mj_n, mj_n, mj_o (.iconst 0), mj_o .ireturn, mj_o (.iload 5), mj_n, mj_q (.ifCond .ne 15) 481 0 0 0 0, mj_n, mj_n, mj_o (.aload_n 3), mj_o (.iconst 0), mj_o .laload, mj_o (.iload 6), mj_n, mj_o .i2l, mj_o .lcmp, mj_q (.ifCond .eq 5) 481 0 0 0 0, mj_n, mj_n, mj_o (.iconst 0)]
def mj_lL_4 : List (Option mj_I) := [mj_o .ireturn, mj_q (.goto 2693) 3174 0 0 0 0, mj_n, mj_n, mj_o (.aload_n 1), mj_o (.aload_n 0), mj_o (.iload 4), mj_n, mj_o (.iconst 1), mj_o .iadd, mj_o .iaload, mj_o (.aload_n 0), mj_o (.iload 4), mj_n, mj_o (.iconst 2), mj_o .iadd, mj_o .iaload, mj_o (.aload_n 0), mj_o (.iload 4), mj_n, mj_o (.iconst 3), mj_o .iadd, mj_o .iaload, mj_o (.aload_n 3), mj_q (.invokestatic 159) 313 5 0 875 0, mj_n, mj_n, mj_o (.istore 5), mj_n, mj_o (.aload_n 2), mj_o (.aload_n 0), mj_o (.iload 4), mj_n, mj_o (.iconst 1), mj_o .iadd, mj_o .iaload, mj_o (.aload_n 0), mj_o (.iload 4), mj_n, mj_o (.iconst 2), mj_o .iadd, mj_o .iaload, mj_o (.aload_n 0), mj_o (.iload 4), mj_n, mj_o (.iconst 3), mj_o .iadd, mj_o .iaload, mj_q (.invokevirtual 161) 234 4 0 1658 10, mj_n, mj_n, mj_o (.istore 6), mj_n, mj_o (.aload_n 2), mj_q (.invokevirtual 149) 175 1 0 1532 10, mj_n, mj_n, mj_o (.iload 5), mj_n, mj_q (.if_icmp .eq 5) 544 0 0 0 0, mj_n, mj_n, mj_o (.iconst 0), mj_o .ireturn, mj_o (.iload 5), mj_n, mj_q (.ifCond .ne 15) 561 0 0 0 0, mj_n, mj_n, mj_o (.aload_n 3), mj_o (.iconst 0), mj_o .laload, mj_o (.iload 6), mj_n, mj_o .i2l, mj_o .lcmp, mj_q (.ifCond .eq 5) 561 0 0 0 0, mj_n, mj_n, mj_o (.iconst 0), mj_o .ireturn, mj_q (.goto 2613) 3174 0 0 0 0, mj_n, mj_n, mj_o (.aload_n 1), mj_o (.aload_n 0), mj_o (.iload 4), mj_n, mj_o (.iconst 1), mj_o .iadd, mj_o .iaload, mj_o (.aload_n 0), mj_o (.iload 4), mj_n, mj_o (.iconst 2), mj_o .iadd, mj_o .iaload, mj_o (.aload_n 3), mj_q (.invokestatic 162) 314 4 0 902 0, mj_n, mj_n, mj_o (.istore 5), mj_n, mj_o (.aload_n 2), mj_o (.aload_n 0), mj_o (.iload 4), mj_n, mj_o (.iconst 1), mj_o .iadd, mj_o .iaload, mj_o (.aload_n 0), mj_o (.iload 4), mj_n, mj_o (.iconst 2), mj_o .iadd, mj_o .iaload, mj_q (.invokevirtual 165) 235 3 0 1671 10, mj_n, mj_n, mj_o (.istore 6)]
def mj_lL_5 : List (Option mj_I) := [mj_n, mj_o (.aload_n 2), mj_q (.invokevirtual 149) 175 1 0 1532 10, mj_n, mj_n, mj_o (.iload 5), mj_n, mj_q (.if_icmp .eq 5) 612 0 0 0 0, mj_n, mj_n, mj_o (.iconst 0), mj_o .ireturn, mj_o (.iload 5), mj_n, mj_q (.ifCond .ne 15) 629 0 0 0 0, mj_n, mj_n, mj_o (.aload_n 3), mj_o (.iconst 0), mj_o .laload, mj_o (.iload 6), mj_n, mj_o .i2l, mj_o .lcmp, mj_q (.ifCond .eq 5) 629 0 0 0 0, mj_n, mj_n, mj_o (.iconst 0), mj_o .ireturn, mj_q (.goto 2545) 3174 0 0 0 0, mj_n, mj_n, mj_o (.aload_n 1), mj_o (.aload_n 0), mj_o (.iload 4), mj_n, mj_o (.iconst 1), mj_o .iadd, mj_o .iaload, mj_o (.aload_n 0), mj_o (.iload 4), mj_n, mj_o (.iconst 2), mj_o .iadd, mj_o .iaload, mj_o (.aload_n 0), mj_o (.iload 4), mj_n, mj_o (.iconst 3), mj_o .iadd, mj_o .iaload, mj_o (.aload_n 3), mj_q (.invokestatic 166) 315 5 0 913 0, mj_n, mj_n, mj_o (.istore 5), mj_n, mj_o (.aload_n 2), mj_o (.aload_n 0), mj_o (.iload 4), mj_n, mj_o (.iconst 1), mj_o .iadd, mj_o .iaload, mj_o (.aload_n 0), mj_o (.iload 4), mj_n, mj_o (.iconst 2), mj_o .iadd, mj_o .iaload, mj_o (.aload_n 0), mj_o (.iload 4), mj_n, mj_o (.iconst 3), mj_o .iadd, mj_o .iaload, mj_q (.invokevirtual 168) 236 4 0 1679 10, mj_n, mj_n, mj_o (.istore 6), mj_n, mj_o (.aload_n 2), mj_q (.invokevirtual 149) 175 1 0 1532 10, mj_n, mj_n, mj_o (.iload 5), mj_n, mj_q (.if_icmp .eq 5) 692 0 0 0 0, mj_n, mj_n, mj_o (.iconst 0), mj_o .ireturn, mj_o (.iload 5), mj_n, mj_q (.ifCond .ne 15) 709 0 0 0 0, mj_n, mj_n, mj_o (.aload_n 3), mj_o (.iconst 0), mj_o .laload, mj_o (.iload 6), mj_n, mj_o .i2l, mj_o .lcmp, mj_q (.ifCond .eq 5) 709 0 0 0 0, mj_n, mj_n, mj_o (.iconst 0), mj_o .ireturn, mj_q (.goto 2465) 3174 0 0 0 0, mj_n, mj_n, mj_o (.aload_n 1), mj_o (.aload_n 0), mj_o (.iload 4), mj_n, mj_o (.iconst 1), mj_o .iadd, mj_o .iaload, mj_o (.aload_n 0)]
def mj_lL_6 : List (Option mj_I) := [mj_o (.iload 4), mj_n, mj_o (.iconst 2), mj_o .iadd, mj_o .iaload, mj_o (.aload_n 0), mj_o (.iload 4), mj_n, mj_o (.iconst 3), mj_o .iadd, mj_o .iaload, mj_o (.aload_n 0), mj_o (.iload 4), mj_n, mj_o (.iconst 4), mj_o .iadd, mj_o .iaload, mj_o (.aload_n 3), mj_q (.invokestatic 169) 316 6 0 924 0, mj_n, mj_n, mj_o (.istore 5), mj_n, mj_o (.aload_n 2), mj_o (.aload_n 0), mj_o (.iload 4), mj_n, mj_o (.iconst 1), mj_o .iadd, mj_o .iaload, mj_o (.aload_n 0), mj_o (.iload 4), mj_n, mj_o (.iconst 2), mj_o .iadd, mj_o .iaload, mj_o (.aload_n 0), mj_o (.iload 4), mj_n, mj_o (.iconst 3), mj_o .iadd, mj_o .iaload, mj_o (.aload_n 0), mj_o (.iload 4), mj_n, mj_o (.iconst 4), mj_o .iadd, mj_o .iaload, mj_q (.invokevirtual 172) 237 5 0 1683 10, mj_n, mj_n, mj_o (.istore 6), mj_n, mj_o (.aload_n 2), mj_q (.invokevirtual 149) 175 1 0 1532 10, mj_n, mj_n, mj_o (.iload 5), mj_n, mj_q (.if_icmp .eq 5) 784 0 0 0 0, mj_n, mj_n, mj_o (.iconst 0), mj_o .ireturn, mj_o (.iload 5), mj_n, mj_q (.ifCond .ne 15) 801 0 0 0 0, mj_n, mj_n, mj_o (.aload_n 3), mj_o (.iconst 0), mj_o .laload, mj_o (.iload 6), mj_n, mj_o .i2l, mj_o .lcmp, mj_q (.ifCond .eq 5) 801 0 0 0 0, mj_n, mj_n, mj_o (.iconst 0), mj_o .ireturn, mj_q (.goto 2373) 3174 0 0 0 0, mj_n, mj_n, mj_o (.aload_n 1), mj_o (.aload_n 0), mj_o (.iload 4), mj_n, mj_o (.iconst 1), mj_o .iadd, mj_o .iaload, mj_o (.aload_n 0), mj_o (.iload 4), mj_n, mj_o (.iconst 2), mj_o .iadd, mj_o .iaload, mj_o (.aload_n 0), mj_o (.iload 4), mj_n, mj_o (.iconst 3), mj_o .iadd, mj_o .iaload, mj_o (.aload_n 3), mj_q (.invokestatic 173) 317 5 0 967 0, mj_n, mj_n, mj_o (.istore 5), mj_n, mj_o (.aload_n 2), mj_o (.aload_n 0), mj_o (.iload 4), mj_n, mj_o (.iconst 1), mj_o .iadd, mj_o .iaload, mj_o (.aload_n 0), mj_o (.iload 4), mj_n, mj_o (.iconst 2)]
def mj_lL_7 : List (Option mj_I) := [mj_o .iadd, mj_o .iaload, mj_o (.aload_n 0), mj_o (.iload 4), mj_n, mj_o (.iconst 3), mj_o .iadd, mj_o .iaload, mj_q (.invokevirtual 175) 238 4 0 1699 10, mj_n, mj_n, mj_o (.istore 6), mj_n, mj_o (.aload_n 2), mj_q (.invokevirtual 149) 175 1 0 1532 10, mj_n, mj_n, mj_o (.iload 5), mj_n, mj_q (.if_icmp .eq 5) 864 0 0 0 0, mj_n, mj_n, mj_o (.iconst 0), mj_o .ireturn, mj_o (.iload 5), mj_n, mj_q (.ifCond .ne 15) 881 0 0 0 0, mj_n, mj_n, mj_o (.aload_n 3), mj_o (.iconst 0), mj_o .laload, mj_o (.iload 6), mj_n, mj_o .i2l, mj_o .lcmp, mj_q (.ifCond .eq 5) 881 0 0 0 0, mj_n, mj_n, mj_o (.iconst 0), mj_o .ireturn, mj_q (.goto 2293) 3174 0 0 0 0, mj_n, mj_n, mj_o (.aload_n 1), mj_o (.aload_n 0), mj_o (.iload 4), mj_n, mj_o (.iconst 1), mj_o .iadd, mj_o .iaload, mj_o (.aload_n 0), mj_o (.iload 4), mj_n, mj_o (.iconst 2), mj_o .iadd, mj_o .iaload, mj_o (.aload_n 3), mj_q (.invokestatic 176) 318 4 0 1093 0, mj_n, mj_n, mj_o (.istore 5), mj_n, mj_o (.aload_n 2), mj_o (.aload_n 0), mj_o (.iload 4), mj_n, mj_o (.iconst 1), mj_o .iadd, mj_o .iaload, mj_o (.aload_n 0), mj_o (.iload 4), mj_n, mj_o (.iconst 2), mj_o .iadd, mj_o .iaload, mj_q (.invokevirtual 178) 239 3 0 1742 10, mj_n, mj_n, mj_o (.istore 6), mj_n, mj_o (.aload_n 2), mj_q (.invokevirtual 149) 175 1 0 1532 10, mj_n, mj_n, mj_o (.iload 5), mj_n, mj_q (.if_icmp .eq 5) 932 0 0 0 0, mj_n, mj_n, mj_o (.iconst 0), mj_o .ireturn, mj_o (.iload 5), mj_n, mj_q (.ifCond .ne 15) 949 0 0 0 0, mj_n, mj_n, mj_o (.aload_n 3), mj_o (.iconst 0), mj_o .laload, mj_o (.iload 6), mj_n, mj_o .i2l, mj_o .lcmp, mj_q (.ifCond .eq 5) 949 0 0 0 0, mj_n, mj_n, mj_o (.iconst 0), mj_o .ireturn, mj_q (.goto 2225) 3174 0 0 0 0, mj_n, mj_n, mj_o (.aload_n 1), mj_o (.aload_n 0), mj_o (.iload 4), mj_n, mj_o (.iconst 1), mj_o .iadd, mj_o .iaload, mj_o (.aload_n 0)]
def mj_lL_8 : List (Option mj_I) := [mj_o (.iload 4), mj_n, mj_o (.iconst 2), mj_o .iadd, mj_o .iaload, mj_o (.aload_n 3), mj_q (.invokestatic 179) 319 4 0 1101 0, mj_n, mj_n, mj_o (.istore 5), mj_n, mj_o (.aload_n 2), mj_o (.aload_n 0), mj_o (.iload 4), mj_n, mj_o (.iconst 1), mj_o .iadd, mj_o .iaload, mj_o (.aload_n 0), mj_o (.iload 4), mj_n, mj_o (.iconst 2), mj_o .iadd, mj_o .iaload, mj_q (.invokevirtual 181) 240 3 0 1746 10, mj_n, mj_n, mj_o (.istore 6), mj_n, mj_o (.aload_n 2), mj_q (.invokevirtual 149) 175 1 0 1532 10, mj_n, mj_n, mj_o (.iload 5), mj_n, mj_q (.if_icmp .eq 5) 1000 0 0 0 0, mj_n, mj_n, mj_o (.iconst 0), mj_o .ireturn, mj_o (.iload 5), mj_n, mj_q (.ifCond .ne 15) 1017 0 0 0 0, mj_n, mj_n, mj_o (.aload_n 3), mj_o (.iconst 0), mj_o .laload, mj_o (.iload 6), mj_n, mj_o .i2l, mj_o .lcmp, mj_q (.ifCond .eq 5) 1017 0 0 0 0, mj_n, mj_n, mj_o (.iconst 0), mj_o .ireturn, mj_q (.goto 2157) 3174 0 0 0 0, mj_n, mj_n, mj_o (.aload_n 1), mj_o (.aload_n 0), mj_o (.iload 4), mj_n, mj_o (.iconst 1), mj_o .iadd, mj_o .iaload, mj_o (.aload_n 0), mj_o (.iload 4), mj_n, mj_o (.iconst 2), mj_o .iadd, mj_o .iaload, mj_o (.aload_n 0), mj_o (.iload 4), mj_n, mj_o (.iconst 3), mj_o .iadd, mj_o .iaload, mj_o (.aload_n 3), mj_q (.invokestatic 182) 320 5 0 1128 0, mj_n, mj_n, mj_o (.istore 5), mj_n, mj_o (.aload_n 2), mj_o (.aload_n 0), mj_o (.iload 4), mj_n, mj_o (.iconst 1), mj_o .iadd, mj_o .iaload, mj_o (.aload_n 0), mj_o (.iload 4), mj_n, mj_o (.iconst 2), mj_o .iadd, mj_o .iaload, mj_o (.aload_n 0), mj_o (.iload 4), mj_n, mj_o (.iconst 3), mj_o .iadd, mj_o .iaload, mj_q (.invokevirtual 184) 243 4 0 1758 10, mj_n, mj_n, mj_o (.istore 6), mj_n, mj_o (.aload_n 2), mj_q (.invokevirtual 149) 175 1 0 1532 10, mj_n, mj_n, mj_o (.iload 5), mj_n, mj_q (.if_icmp .eq 5) 1080 0 0 0 0, mj_n, mj_n, mj_o (.iconst 0), mj_o .ireturn]
def mj_lL_9 : List (Option mj_I) := [mj_o (.iload 5), mj_n, mj_q (.ifCond .ne 15) 1097 0 0 0 0, mj_n, mj_n, mj_o (.aload_n 3), mj_o (.iconst 0), mj_o .laload, mj_o (.iload 6), mj_n, mj_o .i2l, mj_o .lcmp, mj_q (.ifCond .eq 5) 1097 0 0 0 0, mj_n, mj_n, mj_o (.iconst 0), mj_o .ireturn, mj_q (.goto 2077) 3174 0 0 0 0, mj_n, mj_n, mj_o (.aload_n 1), mj_o (.aload_n 0), mj_o (.iload 4), mj_n, mj_o (.iconst 1), mj_o .iadd, mj_o .iaload, mj_o (.aload_n 0), mj_o (.iload 4), mj_n, mj_o (.iconst 2), mj_o .iadd, mj_o .iaload, mj_o (.aload_n 0), mj_o (.iload 4), mj_n, mj_o (.iconst 3), mj_o .iadd, mj_o .iaload, mj_o .i2l, mj_o (.bipush 32), mj_n, mj_o .lshl, mj_o (.aload_n 0), mj_o (.iload 4), mj_n, mj_o (.iconst 4), mj_o .iadd, mj_o .iaload, mj_o .i2l, mj_q (.ldc2_w 185) 4294967295 0 0 2083 0, mj_n, mj_n, mj_o .land, mj_o .lor, mj_o (.aload_n 3), mj_q (.invokestatic 187) 321 5 0 1141 0, mj_n, mj_n, mj_o (.istore 5), mj_n, mj_o (.aload_n 2), mj_o (.aload_n 0), mj_o (.iload 4), mj_n, mj_o (.iconst 1), mj_o .iadd, mj_o .iaload, mj_o (.aload_n 0), mj_o (.iload 4), mj_n, mj_o (.iconst 2), mj_o .iadd, mj_o .iaload, mj_o (.aload_n 0), mj_o (.iload 4), mj_n, mj_o (.iconst 3), mj_o .iadd, mj_o .iaload, mj_o .i2l, mj_o (.bipush 32), mj_n, mj_o .lshl, mj_o (.aload_n 0), mj_o (.iload 4), mj_n, mj_o (.iconst 4), mj_o .iadd, mj_o .iaload, mj_o .i2l, mj_q (.ldc2_w 185) 4294967295 0 0 2083 0, mj_n, mj_n, mj_o .land, mj_o .lor, mj_q (.invokevirtual 190) 244 4 0 1771 10, mj_n, mj_n, mj_o (.istore 6), mj_n, mj_o (.aload_n 2), mj_q (.invokevirtual 149) 175 1 0 1532 10, mj_n, mj_n, mj_o (.iload 5), mj_n, mj_q (.if_icmp .eq 5) 1192 0 0 0 0, mj_n, mj_n, mj_o (.iconst 0), mj_o .ireturn, mj_o (.iload 5), mj_n, mj_q (.ifCond .ne 15) 1209 0 0 0 0, mj_n, mj_n, mj_o (.aload_n 3), mj_o (.iconst 0), mj_o .laload]
def mj_lL_10 : List (Option mj_I) := [mj_o (.iload 6), mj_n, mj_o .i2l, mj_o .lcmp, mj_q (.ifCond .eq 5) 1209 0 0 0 0, mj_n, mj_n, mj_o (.iconst 0), mj_o .ireturn, mj_q (.goto 1965) 3174 0 0 0 0, mj_n, mj_n, mj_o (.aload_n 1), mj_o (.aload_n 0), mj_o (.iload 4), mj_n, mj_o (.iconst 1), mj_o .iadd, mj_o .iaload, mj_o (.aload_n 3), mj_q (.invokestatic 191) 322 3 0 1148 0, mj_n, mj_n, mj_o (.istore 5), mj_n, mj_o (.aload_n 2), mj_o (.aload_n 0), mj_o (.iload 4), mj_n, mj_o (.iconst 1), mj_o .iadd, mj_o .iaload, mj_q (.invokevirtual 194) 245 2 0 1777 10, mj_n, mj_n, mj_o (.istore 6), mj_n, mj_o (.aload_n 2), mj_q (.invokevirtual 149) 175 1 0 1532 10, mj_n, mj_n, mj_o (.iload 5), mj_n, mj_q (.if_icmp .eq 5) 1248 0 0 0 0, mj_n, mj_n, mj_o (.iconst 0), mj_o .ireturn, mj_o (.iload 5), mj_n, mj_q (.ifCond .ne 15) 1265 0 0 0 0, mj_n, mj_n, mj_o (.aload_n 3), mj_o (.iconst 0), mj_o .laload, mj_o (.iload 6), mj_n, mj_o .i2l, mj_o .lcmp, mj_q (.ifCond .eq 5) 1265 0 0 0 0, mj_n, mj_n, mj_o (.iconst 0), mj_o .ireturn, mj_q (.goto 1909) 3174 0 0 0 0, mj_n, mj_n, mj_o (.aload_n 1), mj_o (.aload_n 0), mj_o (.iload 4), mj_n, mj_o (.iconst 1), mj_o .iadd, mj_o .iaload, mj_o (.aload_n 0), mj_o (.iload 4), mj_n, mj_o (.iconst 2), mj_o .iadd, mj_o .iaload, mj_o (.aload_n 3), mj_q (.invokestatic 195) 323 4 0 1155 0, mj_n, mj_n, mj_o (.istore 5), mj_n, mj_o (.aload_n 2), mj_o (.aload_n 0), mj_o (.iload 4), mj_n, mj_o (.iconst 1), mj_o .iadd, mj_o .iaload, mj_o (.aload_n 0), mj_o (.iload 4), mj_n, mj_o (.iconst 2), mj_o .iadd, mj_o .iaload, mj_q (.invokevirtual 197) 246 3 0 1840 10, mj_n, mj_n, mj_o (.istore 6), mj_n, mj_o (.aload_n 2), mj_q (.invokevirtual 149) 175 1 0 1532 10, mj_n, mj_n, mj_o (.iload 5), mj_n, mj_q (.if_icmp .eq 5) 1316 0 0 0 0, mj_n, mj_n, mj_o (.iconst 0), mj_o .ireturn, mj_o (.iload 5), mj_n, mj_q (.ifCond .ne 15) 1333 0 0 0 0, mj_n]
def mj_lL_11 : List (Option mj_I) := [mj_n, mj_o (.aload_n 3), mj_o (.iconst 0), mj_o .laload, mj_o (.iload 6), mj_n, mj_o .i2l, mj_o .lcmp, mj_q (.ifCond .eq 5) 1333 0 0 0 0, mj_n, mj_n, mj_o (.iconst 0), mj_o .ireturn, mj_q (.goto 1841) 3174 0 0 0 0, mj_n, mj_n, mj_o (.aload_n 1), mj_q (.invokevirtual 198) 116 1 0 467 9, mj_n, mj_n, mj_o (.aload_n 2), mj_q (.invokevirtual 201) 247 1 0 1848 10, mj_n, mj_n, mj_q (.if_icmp .eq 1830) 3174 0 0 0 0, mj_n, mj_n, mj_o (.iconst 0), mj_o .ireturn, mj_o (.aload_n 1), mj_o (.aload_n 0), mj_o (.iload 4), mj_n, mj_o (.iconst 1), mj_o .iadd, mj_o .iaload, mj_o (.aload_n 3), mj_q (.invokestatic 202) 324 3 0 1167 0, mj_n, mj_n, mj_o (.istore 5), mj_n, mj_o (.aload_n 2), mj_o (.aload_n 0), mj_o (.iload 4), mj_n, mj_o (.iconst 1), mj_o .iadd, mj_o .iaload, mj_q (.invokevirtual 204) 251 2 0 1852 10, mj_n, mj_n, mj_o (.lstore 6), mj_n, mj_o (.aload_n 2), mj_q (.invokevirtual 149) 175 1 0 1532 10, mj_n, mj_n, mj_o (.iload 5), mj_n, mj_q (.if_icmp .eq 5) 1385 0 0 0 0, mj_n, mj_n, mj_o (.iconst 0), mj_o .ireturn, mj_o (.iload 5), mj_n, mj_q (.ifCond .ne 14) 1401 0 0 0 0, mj_n, mj_n, mj_o (.aload_n 3), mj_o (.iconst 0), mj_o .laload, mj_o (.lload 6), mj_n, mj_o .lcmp, mj_q (.ifCond .eq 5) 1401 0 0 0 0, mj_n, mj_n, mj_o (.iconst 0), mj_o .ireturn, mj_q (.goto 1773) 3174 0 0 0 0, mj_n, mj_n, mj_o (.aload_n 1), mj_q (.invokevirtual 205) 118 1 0 501 9, mj_n, mj_n, mj_o (.aload_n 2), mj_q (.invokevirtual 208) 252 1 0 1867 10, mj_n, mj_n, mj_q (.if_icmp .eq 1762) 3174 0 0 0 0, mj_n, mj_n, mj_o (.iconst 0), mj_o .ireturn, mj_o (.aload_n 1), mj_o (.aload_n 0), mj_o (.iload 4), mj_n, mj_o (.iconst 1), mj_o .iadd, mj_o .iaload, mj_o (.aload_n 3), mj_q (.invokestatic 209) 325 3 0 1197 0, mj_n, mj_n, mj_o (.istore 5), mj_n, mj_o (.aload_n 2), mj_o (.aload_n 0), mj_o (.iload 4), mj_n, mj_o (.iconst 1), mj_o .iadd, mj_o .iaload, mj_q (.invokevirtual 211) 253 2 0 1871 10, mj_n, mj_n]
def mj_lL_12 : List (Option mj_I) := [mj_o (.istore 6), mj_n, mj_o (.aload_n 2), mj_q (.invokevirtual 149) 175 1 0 1532 10, mj_n, mj_n, mj_o (.iload 5), mj_n, mj_q (.if_icmp .eq 5) 1453 0 0 0 0, mj_n, mj_n, mj_o (.iconst 0), mj_o .ireturn, mj_o (.iload 5), mj_n, mj_q (.ifCond .ne 15) 1470 0 0 0 0, mj_n, mj_n, mj_o (.aload_n 3), mj_o (.iconst 0), mj_o .laload, mj_o (.iload 6), mj_n, mj_o .i2l, mj_o .lcmp, mj_q (.ifCond .eq 5) 1470 0 0 0 0, mj_n, mj_n, mj_o (.iconst 0), mj_o .ireturn, mj_q (.goto 1704) 3174 0 0 0 0, mj_n, mj_n, mj_o (.aload_n 1), mj_o (.aload_n 0), mj_o (.iload 4), mj_n, mj_o (.iconst 1), mj_o .iadd, mj_o .iaload, mj_o (.aload_n 3), mj_q (.invokestatic 212) 326 3 0 1204 0, mj_n, mj_n, mj_o (.istore 5), mj_n, mj_o (.aload_n 2), mj_o (.aload_n 0), mj_o (.iload 4), mj_n, mj_o (.iconst 1), mj_o .iadd, mj_o .iaload, mj_q (.invokevirtual 214) 255 2 0 1875 10, mj_n, mj_n, mj_o (.istore 6), mj_n, mj_o (.aload_n 2), mj_q (.invokevirtual 149) 175 1 0 1532 10, mj_n, mj_n, mj_o (.iload 5), mj_n, mj_q (.if_icmp .eq 5) 1509 0 0 0 0, mj_n, mj_n, mj_o (.iconst 0), mj_o .ireturn, mj_o (.iload 5), mj_n, mj_q (.ifCond .ne 15) 1526 0 0 0 0, mj_n, mj_n, mj_o (.aload_n 3), mj_o (.iconst 0), mj_o .laload, mj_o (.iload 6), mj_n, mj_o .i2l, mj_o .lcmp, mj_q (.ifCond .eq 5) 1526 0 0 0 0, mj_n, mj_n, mj_o (.iconst 0), mj_o .ireturn, mj_q (.goto 1648) 3174 0 0 0 0, mj_n, mj_n, mj_o (.aload_n 1), mj_o (.aload_n 0), mj_o (.iload 4), mj_n, mj_o (.iconst 1), mj_o .iadd, mj_o .iaload, mj_o (.aload_n 0), mj_o (.iload 4), mj_n, mj_o (.iconst 2), mj_o .iadd, mj_o .iaload, mj_o (.aload_n 3), mj_q (.invokestatic 215) 327 4 0 1211 0, mj_n, mj_n, mj_o (.istore 5), mj_n, mj_o (.aload_n 2), mj_o (.aload_n 0), mj_o (.iload 4), mj_n, mj_o (.iconst 1), mj_o .iadd, mj_o .iaload, mj_o (.aload_n 0), mj_o (.iload 4), mj_n, mj_o (.iconst 2), mj_o .iadd]
def mj_lL_13 : List (Option mj_I) := [mj_o .iaload, mj_q (.invokevirtual 217) 256 3 0 1883 10, mj_n, mj_n, mj_o (.istore 6), mj_n, mj_o (.aload_n 2), mj_q (.invokevirtual 149) 175 1 0 1532 10, mj_n, mj_n, mj_o (.iload 5), mj_n, mj_q (.if_icmp .eq 5) 1577 0 0 0 0, mj_n, mj_n, mj_o (.iconst 0), mj_o .ireturn, mj_o (.iload 5), mj_n, mj_q (.ifCond .ne 15) 1594 0 0 0 0, mj_n, mj_n, mj_o (.aload_n 3), mj_o (.iconst 0), mj_o .laload, mj_o (.iload 6), mj_n, mj_o .i2l, mj_o .lcmp, mj_q (.ifCond .eq 5) 1594 0 0 0 0, mj_n, mj_n, mj_o (.iconst 0), mj_o .ireturn, mj_q (.goto 1580) 3174 0 0 0 0, mj_n, mj_n, mj_o (.aload_n 1), mj_o (.aload_n 0), mj_o (.iload 4), mj_n, mj_o (.iconst 1), mj_o .iadd, mj_o .iaload, mj_o (.aload_n 0), mj_o (.iload 4), mj_n, mj_o (.iconst 2), mj_o .iadd, mj_o .iaload, mj_o (.aload_n 3), mj_q (.invokestatic 218) 328 4 0 1218 0, mj_n, mj_n, mj_o (.istore 5), mj_n, mj_o (.aload_n 2), mj_o (.aload_n 0), mj_o (.iload 4), mj_n, mj_o (.iconst 1), mj_o .iadd, mj_o .iaload, mj_o (.aload_n 0), mj_o (.iload 4), mj_n, mj_o (.iconst 2), mj_o .iadd, mj_o .iaload, mj_q (.invokevirtual 220) 257 3 0 1887 10, mj_n, mj_n, mj_o (.istore 6), mj_n, mj_o (.aload_n 2), mj_q (.invokevirtual 149) 175 1 0 1532 10, mj_n, mj_n, mj_o (.iload 5), mj_n, mj_q (.if_icmp .eq 5) 1645 0 0 0 0, mj_n, mj_n, mj_o (.iconst 0), mj_o .ireturn, mj_o (.iload 5), mj_n, mj_q (.ifCond .ne 15) 1662 0 0 0 0, mj_n, mj_n, mj_o (.aload_n 3), mj_o (.iconst 0), mj_o .laload, mj_o (.iload 6), mj_n, mj_o .i2l, mj_o .lcmp, mj_q (.ifCond .eq 5) 1662 0 0 0 0, mj_n, mj_n, mj_o (.iconst 0), mj_o .ireturn, mj_q (.goto 1512) 3174 0 0 0 0, mj_n, mj_n, mj_o (.aload_n 1), mj_o (.aload_n 0), mj_o (.iload 4), mj_n, mj_o (.iconst 1), mj_o .iadd, mj_o .iaload, mj_o (.aload_n 3), mj_q (.invokestatic 221) 329 3 0 1229 0, mj_n, mj_n, mj_o (.istore 5), mj_n, mj_o (.aload_n 2), mj_o (.aload_n 0)]
def mj_lL_14 : List (Option mj_I) := [mj_o (.iload 4), mj_n, mj_o (.iconst 1), mj_o .iadd, mj_o .iaload, mj_q (.invokevirtual 223) 258 2 0 1895 10, mj_n, mj_n, mj_o (.istore 6), mj_n, mj_o (.aload_n 2), mj_q (.invokevirtual 149) 175 1 0 1532 10, mj_n, mj_n, mj_o (.iload 5), mj_n, mj_q (.if_icmp .eq 5) 1701 0 0 0 0, mj_n, mj_n, mj_o (.iconst 0), mj_o .ireturn, mj_o (.iload 5), mj_n, mj_q (.ifCond .ne 15) 1718 0 0 0 0, mj_n, mj_n, mj_o (.aload_n 3), mj_o (.iconst 0), mj_o .laload, mj_o (.iload 6), mj_n, mj_o .i2l, mj_o .lcmp, mj_q (.ifCond .eq 5) 1718 0 0 0 0, mj_n, mj_n, mj_o (.iconst 0), mj_o .ireturn, mj_q (.goto 1456) 3174 0 0 0 0, mj_n, mj_n, mj_o (.aload_n 1), mj_o (.aload_n 0), mj_o (.iload 4), mj_n, mj_o (.iconst 1), mj_o .iadd, mj_o .iaload, mj_o (.aload_n 0), mj_o (.iload 4), mj_n, mj_o (.iconst 2), mj_o .iadd, mj_o .iaload, mj_o (.aload_n 0), mj_o (.iload 4), mj_n, mj_o (.iconst 3), mj_o .iadd, mj_o .iaload, mj_o (.aload_n 3), mj_q (.invokestatic 224) 330 5 0 1236 0, mj_n, mj_n, mj_o (.istore 5), mj_n, mj_o (.aload_n 2), mj_o (.aload_n 0), mj_o (.iload 4), mj_n, mj_o (.iconst 1), mj_o .iadd, mj_o .iaload, mj_o (.aload_n 0), mj_o (.iload 4), mj_n, mj_o (.iconst 2), mj_o .iadd, mj_o .iaload, mj_o (.aload_n 0), mj_o (.iload 4), mj_n, mj_o (.iconst 3), mj_o .iadd, mj_o .iaload, mj_q (.invokevirtual 226) 261 4 0 1899 10, mj_n, mj_n, mj_o (.istore 6), mj_n, mj_o (.aload_n 2), mj_q (.invokevirtual 149) 175 1 0 1532 10, mj_n, mj_n, mj_o (.iload 5), mj_n, mj_q (.if_icmp .eq 5) 1781 0 0 0 0, mj_n, mj_n, mj_o (.iconst 0), mj_o .ireturn, mj_o (.iload 5), mj_n, mj_q (.ifCond .ne 15) 1798 0 0 0 0, mj_n, mj_n, mj_o (.aload_n 3), mj_o (.iconst 0), mj_o .laload, mj_o (.iload 6), mj_n, mj_o .i2l, mj_o .lcmp, mj_q (.ifCond .eq 5) 1798 0 0 0 0, mj_n, mj_n, mj_o (.iconst 0), mj_o .ireturn, mj_q (.goto 1376) 3174 0 0 0 0, mj_n]
def mj_lL_15 : List (Option mj_I) := [mj_n, mj_o (.aload_n 1), mj_o (.aload_n 0), mj_o (.iload 4), mj_n, mj_o (.iconst 1), mj_o .iadd, mj_o .iaload, mj_o (.aload_n 0), mj_o (.iload 4), mj_n, mj_o (.iconst 2), mj_o .iadd, mj_o .iaload, mj_o (.aload_n 3), mj_q (.invokestatic 227) 331 4 0 1269 0, mj_n, mj_n, mj_o (.istore 5), mj_n, mj_o (.aload_n 2), mj_o (.aload_n 0), mj_o (.iload 4), mj_n, mj_o (.iconst 1), mj_o .iadd, mj_o .iaload, mj_o (.aload_n 0), mj_o (.iload 4), mj_n, mj_o (.iconst 2), mj_o .iadd, mj_o .iaload, mj_q (.invokevirtual 229) 262 3 0 1920 10, mj_n, mj_n, mj_o (.istore 6), mj_n, mj_o (.aload_n 2), mj_q (.invokevirtual 149) 175 1 0 1532 10, mj_n, mj_n, mj_o (.iload 5), mj_n, mj_q (.if_icmp .eq 5) 1849 0 0 0 0, mj_n, mj_n, mj_o (.iconst 0), mj_o .ireturn, mj_o (.iload 5), mj_n, mj_q (.ifCond .ne 22) 1873 0 0 0 0, mj_n, mj_n, mj_o (.aload_n 3), mj_o (.iconst 0), mj_o .laload, mj_o (.iload 6), mj_n, mj_q (.ifCond .eq 7) 1866 0 0 0 0, mj_n, mj_n, mj_o (.lconst 1), mj_q (.goto 4) 1867 0 0 0 0, mj_n, mj_n, mj_o (.lconst 0), mj_o .lcmp, mj_q (.ifCond .eq 5) 1873 0 0 0 0, mj_n, mj_n, mj_o (.iconst 0), mj_o .ireturn, mj_q (.goto 1301) 3174 0 0 0 0, mj_n, mj_n, mj_o (.aload_n 1), mj_o (.aload_n 0), mj_o (.iload 4), mj_n, mj_o (.iconst 1), mj_o .iadd, mj_o .iaload, mj_o (.aload_n 0), mj_o (.iload 4), mj_n, mj_o (.iconst 2), mj_o .iadd, mj_o .iaload, mj_o (.aload_n 3), mj_q (.invokestatic 230) 332 4 0 1281 0, mj_n, mj_n, mj_o (.istore 5), mj_n, mj_o (.aload_n 2), mj_o (.aload_n 0), mj_o (.iload 4), mj_n, mj_o (.iconst 1), mj_o .iadd, mj_o .iaload, mj_o (.aload_n 0), mj_o (.iload 4), mj_n, mj_o (.iconst 2), mj_o .iadd, mj_o .iaload, mj_q (.invokevirtual 232) 264 3 0 1924 10, mj_n, mj_n, mj_o (.istore 6), mj_n, mj_o (.aload_n 2), mj_q (.invokevirtual 149) 175 1 0 1532 10, mj_n, mj_n, mj_o (.iload 5), mj_n, mj_q (.if_icmp .eq 5) 1924 0 0 0 0]
def mj_lL_16 : List (Option mj_I) := [mj_n, mj_n, mj_o (.iconst 0), mj_o .ireturn, mj_o (.iload 5), mj_n, mj_q (.ifCond .ne 22) 1948 0 0 0 0, mj_n, mj_n, mj_o (.aload_n 3), mj_o (.iconst 0), mj_o .laload, mj_o (.iload 6), mj_n, mj_q (.ifCond .eq 7) 1941 0 0 0 0, mj_n, mj_n, mj_o (.lconst 1), mj_q (.goto 4) 1942 0 0 0 0, mj_n, mj_n, mj_o (.lconst 0), mj_o .lcmp, mj_q (.ifCond .eq 5) 1948 0 0 0 0, mj_n, mj_n, mj_o (.iconst 0), mj_o .ireturn, mj_q (.goto 1226) 3174 0 0 0 0, mj_n, mj_n, mj_o (.aload_n 1), mj_o (.aload_n 0), mj_o (.iload 4), mj_n, mj_o (.iconst 1), mj_o .iadd, mj_o .iaload, mj_o (.aload_n 0), mj_o (.iload 4), mj_n, mj_o (.iconst 2), mj_o .iadd, mj_o .iaload, mj_o (.aload_n 3), mj_q (.invokestatic 233) 333 4 0 1288 0, mj_n, mj_n, mj_o (.istore 5), mj_n, mj_o (.aload_n 2), mj_o (.aload_n 0), mj_o (.iload 4), mj_n, mj_o (.iconst 1), mj_o .iadd, mj_o .iaload, mj_o (.aload_n 0), mj_o (.iload 4), mj_n, mj_o (.iconst 2), mj_o .iadd, mj_o .iaload, mj_q (.invokevirtual 235) 265 3 0 1932 10, mj_n, mj_n, mj_o (.istore 6), mj_n, mj_o (.aload_n 2), mj_q (.invokevirtual 149) 175 1 0 1532 10, mj_n, mj_n, mj_o (.iload 5), mj_n, mj_q (.if_icmp .eq 5) 1999 0 0 0 0, mj_n, mj_n, mj_o (.iconst 0), mj_o .ireturn, mj_o (.iload 5), mj_n, mj_q (.ifCond .ne 15) 2016 0 0 0 0, mj_n, mj_n, mj_o (.aload_n 3), mj_o (.iconst 0), mj_o .laload, mj_o (.iload 6), mj_n, mj_o .i2l, mj_o .lcmp, mj_q (.ifCond .eq 5) 2016 0 0 0 0, mj_n, mj_n, mj_o (.iconst 0), mj_o .ireturn, mj_q (.goto 1158) 3174 0 0 0 0, mj_n, mj_n, mj_o (.aload_n 1), mj_o (.aload_n 0), mj_o (.iload 4), mj_n, mj_o (.iconst 1), mj_o .iadd, mj_o .iaload, mj_q (.ifCond .eq 7) 2033 0 0 0 0, mj_n, mj_n, mj_o (.iconst 1), mj_q (.goto 4) 2034 0 0 0 0, mj_n, mj_n, mj_o (.iconst 0), mj_q (.invokevirtual 236) 128 2 0 505 9, mj_n, mj_n, mj_o (.aload_n 2), mj_o (.aload_n 0), mj_o (.iload 4)]
def mj_lL_17 : List (Option mj_I) := [mj_n, mj_o (.iconst 1), mj_o .iadd, mj_o .iaload, mj_q (.ifCond .eq 7) 2051 0 0 0 0, mj_n, mj_n, mj_o (.iconst 1), mj_q (.goto 4) 2052 0 0 0 0, mj_n, mj_n, mj_o (.iconst 0), mj_q (.invokevirtual 240) 268 2 0 1940 10, mj_n, mj_n, mj_q (.if_icmp .eq 1119) 3174 0 0 0 0, mj_n, mj_n, mj_o (.iconst 0), mj_o .ireturn, mj_o (.aload_n 1), mj_o (.aload_n 0), mj_o (.iload 4), mj_n, mj_o (.iconst 1), mj_o .iadd, mj_o .iaload, mj_q (.ifCond .eq 7) 2074 0 0 0 0, mj_n, mj_n, mj_o (.iconst 1), mj_q (.goto 4) 2075 0 0 0 0, mj_n, mj_n, mj_o (.iconst 0), mj_o (.aload_n 0), mj_o (.iload 4), mj_n, mj_o (.iconst 2), mj_o .iadd, mj_o .iaload, mj_o (.aload_n 3), mj_q (.invokestatic 241) 334 4 0 1295 0, mj_n, mj_n, mj_o (.istore 5), mj_n, mj_o (.aload_n 2), mj_o (.aload_n 0), mj_o (.iload 4), mj_n, mj_o (.iconst 1), mj_o .iadd, mj_o .iaload, mj_q (.ifCond .eq 7) 2101 0 0 0 0, mj_n, mj_n, mj_o (.iconst 1), mj_q (.goto 4) 2102 0 0 0 0, mj_n, mj_n, mj_o (.iconst 0), mj_o (.aload_n 0), mj_o (.iload 4), mj_n, mj_o (.iconst 2), mj_o .iadd, mj_o .iaload, mj_q (.invokevirtual 244) 269 3 0 1951 10, mj_n, mj_n, mj_o (.istore 6), mj_n, mj_o (.aload_n 2), mj_q (.invokevirtual 149) 175 1 0 1532 10, mj_n, mj_n, mj_o (.iload 5), mj_n, mj_q (.if_icmp .eq 5) 2124 0 0 0 0, mj_n, mj_n, mj_o (.iconst 0), mj_o .ireturn, mj_o (.iload 5), mj_n, mj_q (.ifCond .ne 15) 2141 0 0 0 0, mj_n, mj_n, mj_o (.aload_n 3), mj_o (.iconst 0), mj_o .laload, mj_o (.iload 6), mj_n, mj_o .i2l, mj_o .lcmp, mj_q (.ifCond .eq 5) 2141 0 0 0 0, mj_n, mj_n, mj_o (.iconst 0), mj_o .ireturn, mj_q (.goto 1033) 3174 0 0 0 0, mj_n, mj_n, mj_o (.aload_n 1), mj_o (.aload_n 0), mj_o (.iload 4), mj_n, mj_o (.iconst 1), mj_o .iadd, mj_o .iaload, mj_q (.ifCond .eq 7) 2158 0 0 0 0, mj_n, mj_n, mj_o (.iconst 1), mj_q (.goto 4) 2159 0 0 0 0, mj_n, mj_n, mj_o (.iconst 0), mj_q (.invokevirtual 245) 130 2 0 521 9]
def mj_lL_18 : List (Option mj_I) := [mj_n, mj_n, mj_o (.aload_n 2), mj_o (.aload_n 0), mj_o (.iload 4), mj_n, mj_o (.iconst 1), mj_o .iadd, mj_o .iaload, mj_q (.ifCond .eq 7) 2176 0 0 0 0, mj_n, mj_n, mj_o (.iconst 1), mj_q (.goto 4) 2177 0 0 0 0, mj_n, mj_n, mj_o (.iconst 0), mj_q (.invokevirtual 249) 270 2 0 1955 10, mj_n, mj_n, mj_o .lcmp, mj_q (.ifCond .eq 993) 3174 0 0 0 0, mj_n, mj_n, mj_o (.iconst 0), mj_o .ireturn, mj_o (.aload_n 1), mj_o (.aload_n 0), mj_o (.iload 4), mj_n, mj_o (.iconst 1), mj_o .iadd, mj_o .iaload, mj_o (.aload_n 3), mj_q (.invokestatic 250) 335 3 0 1306 0, mj_n, mj_n, mj_o (.istore 5), mj_n, mj_o (.aload_n 2), mj_o (.aload_n 0), mj_o (.iload 4), mj_n, mj_o (.iconst 1), mj_o .iadd, mj_o .iaload, mj_q (.invokevirtual 252) 271 2 0 1959 10, mj_n, mj_n, mj_o (.istore 6), mj_n, mj_o (.aload_n 2), mj_q (.invokevirtual 149) 175 1 0 1532 10, mj_n, mj_n, mj_o (.iload 5), mj_n, mj_q (.if_icmp .eq 5) 2222 0 0 0 0, mj_n, mj_n, mj_o (.iconst 0), mj_o .ireturn, mj_o (.iload 5), mj_n, mj_q (.ifCond .ne 15) 2239 0 0 0 0, mj_n, mj_n, mj_o (.aload_n 3), mj_o (.iconst 0), mj_o .laload, mj_o (.iload 6), mj_n, mj_o .i2l, mj_o .lcmp, mj_q (.ifCond .eq 5) 2239 0 0 0 0, mj_n, mj_n, mj_o (.iconst 0), mj_o .ireturn, mj_q (.goto 935) 3174 0 0 0 0, mj_n, mj_n, mj_o (.aload_n 1), mj_o (.aload_n 0), mj_o (.iload 4), mj_n, mj_o (.iconst 1), mj_o .iadd, mj_o .iaload, mj_o (.aload_n 0), mj_o (.iload 4), mj_n, mj_o (.iconst 2), mj_o .iadd, mj_o .iaload, mj_o (.aload_n 0), mj_o (.iload 4), mj_n, mj_o (.iconst 3), mj_o .iadd, mj_o .iaload, mj_o (.aload_n 0), mj_o (.iload 4), mj_n, mj_o (.iconst 4), mj_o .iadd, mj_o .iaload, mj_o (.aload_n 0), mj_o (.iload 4), mj_n, mj_o (.iconst 5), mj_o .iadd, mj_o .iaload, mj_o (.aload_n 3), mj_q (.invokestatic 253) 336 7 0 1324 0, mj_n, mj_n, mj_o (.istore 5), mj_n, mj_o (.aload_n 2)]
def mj_lL_19 : List (Option mj_I) := [mj_o (.aload_n 0), mj_o (.iload 4), mj_n, mj_o (.iconst 1), mj_o .iadd, mj_o .iaload, mj_o (.aload_n 0), mj_o (.iload 4), mj_n, mj_o (.iconst 2), mj_o .iadd, mj_o .iaload, mj_o (.aload_n 0), mj_o (.iload 4), mj_n, mj_o (.iconst 3), mj_o .iadd, mj_o .iaload, mj_o (.aload_n 0), mj_o (.iload 4), mj_n, mj_o (.iconst 4), mj_o .iadd, mj_o .iaload, mj_o (.aload_n 0), mj_o (.iload 4), mj_n, mj_o (.iconst 5), mj_o .iadd, mj_o .iaload, mj_q (.invokevirtual 256) 272 6 0 1975 10, mj_n, mj_n, mj_o (.istore 6), mj_n, mj_o (.aload_n 2), mj_q (.invokevirtual 149) 175 1 0 1532 10, mj_n, mj_n, mj_o (.iload 5), mj_n, mj_q (.if_icmp .eq 5) 2326 0 0 0 0, mj_n, mj_n, mj_o (.iconst 0), mj_o .ireturn, mj_o (.iload 5), mj_n, mj_q (.ifCond .ne 15) 2343 0 0 0 0, mj_n, mj_n, mj_o (.aload_n 3), mj_o (.iconst 0), mj_o .laload, mj_o (.iload 6), mj_n, mj_o .i2l, mj_o .lcmp, mj_q (.ifCond .eq 5) 2343 0 0 0 0, mj_n, mj_n, mj_o (.iconst 0), mj_o .ireturn, mj_q (.goto 831) 3174 0 0 0 0, mj_n, mj_n, mj_o (.aload_n 1), mj_o (.aload_n 0), mj_o (.iload 4), mj_n, mj_o (.iconst 1), mj_o .iadd, mj_o .iaload, mj_o (.aload_n 3), mj_q (.invokestatic 257) 337 3 0 1345 0, mj_n, mj_n, mj_o (.istore 5), mj_n, mj_o (.aload_n 2), mj_o (.aload_n 0), mj_o (.iload 4), mj_n, mj_o (.iconst 1), mj_o .iadd, mj_o .iaload, mj_q (.invokevirtual 259) 273 2 0 1979 10, mj_n, mj_n, mj_o (.istore 6), mj_n, mj_o (.aload_n 2), mj_q (.invokevirtual 149) 175 1 0 1532 10, mj_n, mj_n, mj_o (.iload 5), mj_n, mj_q (.if_icmp .eq 5) 2382 0 0 0 0, mj_n, mj_n, mj_o (.iconst 0), mj_o .ireturn, mj_o (.iload 5), mj_n, mj_q (.ifCond .ne 15) 2399 0 0 0 0, mj_n, mj_n, mj_o (.aload_n 3), mj_o (.iconst 0), mj_o .laload, mj_o (.iload 6), mj_n, mj_o .i2l, mj_o .lcmp, mj_q (.ifCond .eq 5) 2399 0 0 0 0, mj_n, mj_n, mj_o (.iconst 0), mj_o .ireturn, mj_q (.goto 775) 3174 0 0 0 0]
def mj_lL_20 : List (Option mj_I) := [mj_n, mj_n, mj_o (.aload_n 1), mj_o (.aload_n 0), mj_o (.iload 4), mj_n, mj_o (.iconst 1), mj_o .iadd, mj_o .iaload, mj_o (.aload_n 0), mj_o (.iload 4), mj_n, mj_o (.iconst 2), mj_o .iadd, mj_o .iaload, mj_o (.aload_n 0), mj_o (.iload 4), mj_n, mj_o (.iconst 3), mj_o .iadd, mj_o .iaload, mj_o (.aload_n 3), mj_q (.invokestatic 260) 338 5 0 1352 0, mj_n, mj_n, mj_o (.istore 5), mj_n, mj_o (.aload_n 2), mj_o (.aload_n 0), mj_o (.iload 4), mj_n, mj_o (.iconst 1), mj_o .iadd, mj_o .iaload, mj_o (.aload_n 0), mj_o (.iload 4), mj_n, mj_o (.iconst 2), mj_o .iadd, mj_o .iaload, mj_o (.aload_n 0), mj_o (.iload 4), mj_n, mj_o (.iconst 3), mj_o .iadd, mj_o .iaload, mj_q (.invokevirtual 262) 274 4 0 1983 10, mj_n, mj_n, mj_o (.istore 6), mj_n, mj_o (.aload_n 2), mj_q (.invokevirtual 149) 175 1 0 1532 10, mj_n, mj_n, mj_o (.iload 5), mj_n, mj_q (.if_icmp .eq 5) 2462 0 0 0 0, mj_n, mj_n, mj_o (.iconst 0), mj_o .ireturn, mj_o (.iload 5), mj_n, mj_q (.ifCond .ne 15) 2479 0 0 0 0, mj_n, mj_n, mj_o (.aload_n 3), mj_o (.iconst 0), mj_o .laload, mj_o (.iload 6), mj_n, mj_o .i2l, mj_o .lcmp, mj_q (.ifCond .eq 5) 2479 0 0 0 0, mj_n, mj_n, mj_o (.iconst 0), mj_o .ireturn, mj_q (.goto 695) 3174 0 0 0 0, mj_n, mj_n, mj_o (.aload_n 1), mj_o (.aload_n 0), mj_o (.iload 4), mj_n, mj_o (.iconst 1), mj_o .iadd, mj_o .iaload, mj_o (.aload_n 0), mj_o (.iload 4), mj_n, mj_o (.iconst 2), mj_o .iadd, mj_o .iaload, mj_o (.aload_n 0), mj_o (.iload 4), mj_n, mj_o (.iconst 3), mj_o .iadd, mj_o .iaload, mj_o (.aload_n 3), mj_q (.invokestatic 263) 339 5 0 1359 0, mj_n, mj_n, mj_o (.istore 5), mj_n, mj_o (.aload_n 2), mj_o (.aload_n 0), mj_o (.iload 4), mj_n, mj_o (.iconst 1), mj_o .iadd, mj_o .iaload, mj_o (.aload_n 0), mj_o (.iload 4), mj_n, mj_o (.iconst 2), mj_o .iadd, mj_o .iaload]
def mj_lL_21 : List (Option mj_I) := [mj_o (.aload_n 0), mj_o (.iload 4), mj_n, mj_o (.iconst 3), mj_o .iadd, mj_o .iaload, mj_q (.invokevirtual 265) 276 4 0 1987 10, mj_n, mj_n, mj_o (.istore 6), mj_n, mj_o (.aload_n 2), mj_q (.invokevirtual 149) 175 1 0 1532 10, mj_n, mj_n, mj_o (.iload 5), mj_n, mj_q (.if_icmp .eq 5) 2542 0 0 0 0, mj_n, mj_n, mj_o (.iconst 0), mj_o .ireturn, mj_o (.iload 5), mj_n, mj_q (.ifCond .ne 15) 2559 0 0 0 0, mj_n, mj_n, mj_o (.aload_n 3), mj_o (.iconst 0), mj_o .laload, mj_o (.iload 6), mj_n, mj_o .i2l, mj_o .lcmp, mj_q (.ifCond .eq 5) 2559 0 0 0 0, mj_n, mj_n, mj_o (.iconst 0), mj_o .ireturn, mj_q (.goto 615) 3174 0 0 0 0, mj_n, mj_n, mj_o (.aload_n 1), mj_o (.aload_n 0), mj_o (.iload 4), mj_n, mj_o (.iconst 1), mj_o .iadd, mj_o .iaload, mj_o (.aload_n 3), mj_q (.invokestatic 266) 340 3 0 1385 0, mj_n, mj_n, mj_o (.istore 5), mj_n, mj_o (.aload_n 2), mj_o (.aload_n 0), mj_o (.iload 4), mj_n, mj_o (.iconst 1), mj_o .iadd, mj_o .iaload, mj_q (.invokevirtual 268) 278 2 0 2005 10, mj_n, mj_n, mj_o (.istore 6), mj_n, mj_o (.aload_n 2), mj_q (.invokevirtual 149) 175 1 0 1532 10, mj_n, mj_n, mj_o (.iload 5), mj_n, mj_q (.if_icmp .eq 5) 2598 0 0 0 0, mj_n, mj_n, mj_o (.iconst 0), mj_o .ireturn, mj_o (.iload 5), mj_n, mj_q (.ifCond .ne 15) 2615 0 0 0 0, mj_n, mj_n, mj_o (.aload_n 3), mj_o (.iconst 0), mj_o .laload, mj_o (.iload 6), mj_n, mj_o .i2l, mj_o .lcmp, mj_q (.ifCond .eq 5) 2615 0 0 0 0, mj_n, mj_n, mj_o (.iconst 0), mj_o .ireturn, mj_q (.goto 559) 3174 0 0 0 0, mj_n, mj_n, mj_o (.aload_n 1), mj_o (.aload_n 0), mj_o (.iload 4), mj_n, mj_o (.iconst 1), mj_o .iadd, mj_o .iaload, mj_o (.aload_n 0), mj_o (.iload 4), mj_n, mj_o (.iconst 2), mj_o .iadd, mj_o .iaload, mj_o (.aload_n 3), mj_q (.invokestatic 269) 341 4 0 1398 0, mj_n, mj_n, mj_o (.istore 5), mj_n, mj_o (.aload_n 2), mj_o (.aload_n 0), mj_o (.iload 4)]
def mj_lL_22 : List (Option mj_I) := [mj_n, mj_o (.iconst 1), mj_o .iadd, mj_o .iaload, mj_o (.aload_n 0), mj_o (.iload 4), mj_n, mj_o (.iconst 2), mj_o .iadd, mj_o .iaload, mj_q (.invokevirtual 271) 279 3 0 2013 10, mj_n, mj_n, mj_o (.istore 6), mj_n, mj_o (.aload_n 2), mj_q (.invokevirtual 149) 175 1 0 1532 10, mj_n, mj_n, mj_o (.iload 5), mj_n, mj_q (.if_icmp .eq 5) 2666 0 0 0 0, mj_n, mj_n, mj_o (.iconst 0), mj_o .ireturn, mj_o (.iload 5), mj_n, mj_q (.ifCond .ne 15) 2683 0 0 0 0, mj_n, mj_n, mj_o (.aload_n 3), mj_o (.iconst 0), mj_o .laload, mj_o (.iload 6), mj_n, mj_o .i2l, mj_o .lcmp, mj_q (.ifCond .eq 5) 2683 0 0 0 0, mj_n, mj_n, mj_o (.iconst 0), mj_o .ireturn, mj_q (.goto 491) 3174 0 0 0 0, mj_n, mj_n, mj_o (.aload_n 1), mj_o (.aload_n 0), mj_o (.iload 4), mj_n, mj_o (.iconst 1), mj_o .iadd, mj_o .iaload, mj_o (.aload_n 0), mj_o (.iload 4), mj_n, mj_o (.iconst 2), mj_o .iadd, mj_o .iaload, mj_o (.aload_n 3), mj_q (.invokestatic 272) 342 4 0 1405 0, mj_n, mj_n, mj_o (.istore 5), mj_n, mj_o (.aload_n 2), mj_o (.aload_n 0), mj_o (.iload 4), mj_n, mj_o (.iconst 1), mj_o .iadd, mj_o .iaload, mj_o (.aload_n 0), mj_o (.iload 4), mj_n, mj_o (.iconst 2), mj_o .iadd, mj_o .iaload, mj_q (.invokevirtual 274) 281 3 0 2017 10, mj_n, mj_n, mj_o (.istore 6), mj_n, mj_o (.aload_n 2), mj_q (.invokevirtual 149) 175 1 0 1532 10, mj_n, mj_n, mj_o (.iload 5), mj_n, mj_q (.if_icmp .eq 5) 2734 0 0 0 0, mj_n, mj_n, mj_o (.iconst 0), mj_o .ireturn, mj_o (.iload 5), mj_n, mj_q (.ifCond .ne 15) 2751 0 0 0 0, mj_n, mj_n, mj_o (.aload_n 3), mj_o (.iconst 0), mj_o .laload, mj_o (.iload 6), mj_n, mj_o .i2l, mj_o .lcmp, mj_q (.ifCond .eq 5) 2751 0 0 0 0, mj_n, mj_n, mj_o (.iconst 0), mj_o .ireturn, mj_q (.goto 423) 3174 0 0 0 0, mj_n, mj_n, mj_o (.aload_n 1), mj_o (.aload_n 0), mj_o (.iload 4), mj_n, mj_o (.iconst 1), mj_o .iadd]
def mj_lL_23 : List (Option mj_I) := [mj_o .iaload, mj_o (.aload_n 0), mj_o (.iload 4), mj_n, mj_o (.iconst 2), mj_o .iadd, mj_o .iaload, mj_o (.aload_n 3), mj_q (.invokestatic 275) 343 4 0 1415 0, mj_n, mj_n, mj_o (.istore 5), mj_n, mj_o (.aload_n 2), mj_o (.aload_n 0), mj_o (.iload 4), mj_n, mj_o (.iconst 1), mj_o .iadd, mj_o .iaload, mj_o (.aload_n 0), mj_o (.iload 4), mj_n, mj_o (.iconst 2), mj_o .iadd, mj_o .iaload, mj_q (.invokevirtual 277) 282 3 0 2025 10, mj_n, mj_n, mj_o (.istore 6), mj_n, mj_o (.aload_n 2), mj_q (.invokevirtual 149) 175 1 0 1532 10, mj_n, mj_n, mj_o (.iload 5), mj_n, mj_q (.if_icmp .eq 5) 2802 0 0 0 0, mj_n, mj_n, mj_o (.iconst 0), mj_o .ireturn, mj_o (.iload 5), mj_n, mj_q (.ifCond .ne 15) 2819 0 0 0 0, mj_n, mj_n, mj_o (.aload_n 3), mj_o (.iconst 0), mj_o .laload, mj_o (.iload 6), mj_n, mj_o .i2l, mj_o .lcmp, mj_q (.ifCond .eq 5) 2819 0 0 0 0, mj_n, mj_n, mj_o (.iconst 0), mj_o .ireturn, mj_q (.goto 355) 3174 0 0 0 0, mj_n, mj_n, mj_o (.aload_n 1), mj_q (.invokevirtual 278) 140 1 0 529 9, mj_n, mj_n, mj_o (.aload_n 2), mj_q (.invokevirtual 281) 283 1 0 2029 10, mj_n, mj_n, mj_q (.if_icmp .eq 344) 3174 0 0 0 0, mj_n, mj_n, mj_o (.iconst 0), mj_o .ireturn, mj_o (.aload_n 1), mj_o (.aload_n 0), mj_o (.iload 4), mj_n, mj_o (.iconst 1), mj_o .iadd, mj_o .iaload, mj_o (.aload_n 0), mj_o (.iload 4), mj_n, mj_o (.iconst 2), mj_o .iadd, mj_o .iaload, mj_o (.aload_n 0), mj_o (.iload 4), mj_n, mj_o (.iconst 3), mj_o .iadd, mj_o .iaload, mj_o (.aload_n 0), mj_o (.iload 4), mj_n, mj_o (.iconst 4), mj_o .iadd, mj_o .iaload, mj_o (.aload_n 0), mj_o (.iload 4), mj_n, mj_o (.iconst 5), mj_o .iadd, mj_o .iaload, mj_o (.aload_n 3), mj_q (.invokestatic 282) 344 7 0 1438 0, mj_n, mj_n, mj_o (.istore 5), mj_n, mj_o (.aload_n 2), mj_o (.aload_n 0), mj_o (.iload 4), mj_n, mj_o (.iconst 1), mj_o .iadd, mj_o .iaload, mj_o (.aload_n 0)]
def mj_lL_24 : List (Option mj_I) := [mj_o (.iload 4), mj_n, mj_o (.iconst 2), mj_o .iadd, mj_o .iaload, mj_o (.aload_n 0), mj_o (.iload 4), mj_n, mj_o (.iconst 3), mj_o .iadd, mj_o .iaload, mj_o (.aload_n 0), mj_o (.iload 4), mj_n, mj_o (.iconst 4), mj_o .iadd, mj_o .iaload, mj_o (.aload_n 0), mj_o (.iload 4), mj_n, mj_o (.iconst 5), mj_o .iadd, mj_o .iaload, mj_q (.invokevirtual 284) 285 6 0 2033 10, mj_n, mj_n, mj_o (.istore 6), mj_n, mj_o (.aload_n 2), mj_q (.invokevirtual 149) 175 1 0 1532 10, mj_n, mj_n, mj_o (.iload 5), mj_n, mj_q (.if_icmp .eq 5) 2919 0 0 0 0, mj_n, mj_n, mj_o (.iconst 0), mj_o .ireturn, mj_o (.iload 5), mj_n, mj_q (.ifCond .ne 15) 2936 0 0 0 0, mj_n, mj_n, mj_o (.aload_n 3), mj_o (.iconst 0), mj_o .laload, mj_o (.iload 6), mj_n, mj_o .i2l, mj_o .lcmp, mj_q (.ifCond .eq 5) 2936 0 0 0 0, mj_n, mj_n, mj_o (.iconst 0), mj_o .ireturn, mj_q (.goto 238) 3174 0 0 0 0, mj_n, mj_n, mj_o (.aload_n 1), mj_q (.invokevirtual 285) 142 1 0 533 9, mj_n, mj_n, mj_o (.aload_n 2), mj_q (.invokevirtual 288) 286 1 0 2041 10, mj_n, mj_n, mj_q (.if_icmp .eq 227) 3174 0 0 0 0, mj_n, mj_n, mj_o (.iconst 0), mj_o .ireturn, mj_o (.aload_n 1), mj_q (.invokevirtual 289) 143 1 0 537 9, mj_n, mj_n, mj_o (.aload_n 2), mj_q (.invokevirtual 292) 287 1 0 2045 10, mj_n, mj_n, mj_q (.if_icmp .eq 214) 3174 0 0 0 0, mj_n, mj_n, mj_o (.iconst 0), mj_o .ireturn, mj_o (.aload_n 1), mj_o (.aload_n 0), mj_o (.iload 4), mj_n, mj_o (.iconst 1), mj_o .iadd, mj_o .iaload, mj_o (.aload_n 3), mj_q (.invokestatic 293) 345 3 0 1452 0, mj_n, mj_n, mj_o (.istore 5), mj_n, mj_o (.aload_n 2), mj_o (.aload_n 0), mj_o (.iload 4), mj_n, mj_o (.iconst 1), mj_o .iadd, mj_o .iaload, mj_q (.invokevirtual 295) 305 2 0 2049 10, mj_n, mj_n, mj_o (.istore 6), mj_n, mj_o (.aload_n 2), mj_q (.invokevirtual 149) 175 1 0 1532 10, mj_n, mj_n, mj_o (.iload 5), mj_n, mj_q (.if_icmp .eq 5) 3001 0 0 0 0, mj_n, mj_n, mj_o (.iconst 0)]
def mj_lL_25 : List (Option mj_I) := [mj_o .ireturn, mj_o (.iload 5), mj_n, mj_q (.ifCond .ne 15) 3018 0 0 0 0, mj_n, mj_n, mj_o (.aload_n 3), mj_o (.iconst 0), mj_o .laload, mj_o (.iload 6), mj_n, mj_o .i2l, mj_o .lcmp, mj_q (.ifCond .eq 5) 3018 0 0 0 0, mj_n, mj_n, mj_o (.iconst 0), mj_o .ireturn, mj_q (.goto 156) 3174 0 0 0 0, mj_n, mj_n, mj_o (.aload_n 1), mj_o (.aload_n 0), mj_o (.iload 4), mj_n, mj_o (.iconst 1), mj_o .iadd, mj_o .iaload, mj_o (.aload_n 3), mj_q (.invokestatic 296) 346 3 0 1459 0, mj_n, mj_n, mj_o (.istore 5), mj_n, mj_o (.aload_n 2), mj_o (.aload_n 0), mj_o (.iload 4), mj_n, mj_o (.iconst 1), mj_o .iadd, mj_o .iaload, mj_q (.invokevirtual 298) 306 2 0 2065 10, mj_n, mj_n, mj_o (.istore 6), mj_n, mj_o (.aload_n 2), mj_q (.invokevirtual 149) 175 1 0 1532 10, mj_n, mj_n, mj_o (.iload 5), mj_n, mj_q (.if_icmp .eq 5) 3057 0 0 0 0, mj_n, mj_n, mj_o (.iconst 0), mj_o .ireturn, mj_o (.iload 5), mj_n, mj_q (.ifCond .ne 15) 3074 0 0 0 0, mj_n, mj_n, mj_o (.aload_n 3), mj_o (.iconst 0), mj_o .laload, mj_o (.iload 6), mj_n, mj_o .i2l, mj_o .lcmp, mj_q (.ifCond .eq 5) 3074 0 0 0 0, mj_n, mj_n, mj_o (.iconst 0), mj_o .ireturn, mj_q (.goto 100) 3174 0 0 0 0, mj_n, mj_n, mj_o (.aload_n 1), mj_q (.invokevirtual 299) 146 1 0 541 9, mj_n, mj_n, mj_o (.dstore 5), mj_n, mj_o (.aload_n 2), mj_q (.invokevirtual 303) 307 1 0 2069 10, mj_n, mj_n, mj_o (.dstore 7), mj_n, mj_o (.dload 5), mj_n, mj_o (.dload 7), mj_n, mj_o (.dcmp .l), mj_q (.ifCond .eq 21) 3115 0 0 0 0, mj_n, mj_n, mj_o (.dload 5), mj_n, mj_o (.dload 5), mj_n, mj_o (.dcmp .l), mj_q (.ifCond .eq 11) 3113 0 0 0 0, mj_n, mj_n, mj_o (.dload 7), mj_n, mj_o (.dload 7), mj_n, mj_o (.dcmp .l), mj_q (.ifCond .ne 5) 3115 0 0 0 0, mj_n, mj_n, mj_o (.iconst 0), mj_o .ireturn, mj_q (.goto 59) 3174 0 0 0 0, mj_n, mj_n, mj_o (.aload_n 1), mj_q (.invokevirtual 304) 147 1 0 549 9]
def mj_lL_26 : List (Option mj_I) := [mj_n, mj_n, mj_o .f2d, mj_o (.dstore 5), mj_n, mj_o (.aload_n 2), mj_q (.invokevirtual 308) 308 1 0 2074 10, mj_n, mj_n, mj_o .f2d, mj_o (.dstore 7), mj_n, mj_o (.dload 5), mj_n, mj_o (.dload 7), mj_n, mj_o (.dcmp .l), mj_q (.ifCond .eq 21) 3158 0 0 0 0, mj_n, mj_n, mj_o (.dload 5), mj_n, mj_o (.dload 5), mj_n, mj_o (.dcmp .l), mj_q (.ifCond .eq 11) 3156 0 0 0 0, mj_n, mj_n, mj_o (.dload 7), mj_n, mj_o (.dload 7), mj_n, mj_o (.dcmp .l), mj_q (.ifCond .ne 5) 3158 0 0 0 0, mj_n, mj_n, mj_o (.iconst 0), mj_o .ireturn, mj_q (.goto 16) 3174 0 0 0 0, mj_n, mj_n, mj_o (.aload_n 1), mj_q (.invokevirtual 309) 148 1 0 557 9, mj_n, mj_n, mj_o (.aload_n 2), mj_q (.invokevirtual 312) 309 1 0 2079 10, mj_n, mj_n, mj_q (.if_icmp .eq 5) 3174 0 0 0 0, mj_n, mj_n, mj_o (.iconst 0), mj_o .ireturn, mj_o (.iinc 4 6), mj_n, mj_n, mj_q (.goto (-3154)) 23 0 0 0 0, mj_n, mj_n, mj_o (.iconst 1), mj_o .ireturn]
def mj_lL : List (Option mj_I) := mj_lL_0 ++ (mj_lL_1 ++ (mj_lL_2 ++ (mj_lL_3 ++ (mj_lL_4 ++ (mj_lL_5 ++ (mj_lL_6 ++ (mj_lL_7 ++ (mj_lL_8 ++ (mj_lL_9 ++ (mj_lL_10 ++ (mj_lL_11 ++ (mj_lL_12 ++ (mj_lL_13 ++ (mj_lL_14 ++ (mj_lL_15 ++ (mj_lL_16 ++ (mj_lL_17 ++ (mj_lL_18 ++ (mj_lL_19 ++ (mj_lL_20 ++ (mj_lL_21 ++ (mj_lL_22 ++ (mj_lL_23 ++ (mj_lL_24 ++ (mj_lL_25 ++ (mj_lL_26))))))))))))))))))))))))))
def mj_mL : mj_M := (⟨"PolyRegistersLaw", "law", "([I)Z"⟩, code, maxLocals, ret, mj_look mj_lL, [], 0, 0, 0, 0, 0)
def mj_P_0 : List mj_M := [mj_m0, mj_m1, mj_m2, mj_m3, mj_m4, mj_m5, mj_m6, mj_m7, mj_m8, mj_m9, mj_m10, mj_m11, mj_m12, mj_m13, mj_m14, mj_m15, mj_m16, mj_m17, mj_m18, mj_m19, mj_m20, mj_m21, mj_m22, mj_m23, mj_m24, mj_m25, mj_m26, mj_m27, mj_m28, mj_m29, mj_m30, mj_m31, mj_m32, mj_m33, mj_m34, mj_m35, mj_m36, mj_m37, mj_m38, mj_m39, mj_m40, mj_m41, mj_m42, mj_m43, mj_m44, mj_m45, mj_m46, mj_m47, mj_m48, mj_m49]
def mj_P_1 : List mj_M := [mj_m50, mj_m51, mj_m52, mj_m53, mj_m54, mj_m55, mj_m56, mj_m57, mj_m58, mj_m59, mj_m60, mj_m61, mj_m62, mj_m63, mj_m64, mj_m65, mj_m66, mj_m67, mj_m68, mj_m69, mj_m70, mj_m71, mj_m72, mj_m73, mj_m74, mj_m75, mj_m76, mj_m77, mj_m78, mj_m79, mj_m80, mj_m81, mj_m82, mj_m83, mj_m84, mj_m85, mj_m86, mj_m87, mj_m88, mj_m89, mj_m90, mj_m91, mj_m92, mj_m93, mj_m94, mj_m95, mj_m96, mj_m97, mj_m98, mj_m99]
def mj_P_2 : List mj_M := [mj_m100, mj_m101, mj_m102, mj_m103, mj_m104, mj_m105, mj_m106, mj_m107, mj_m108, mj_m109, mj_m110, mj_m111, mj_m112, mj_m113, mj_m114, mj_m115, mj_m116, mj_m117, mj_m118, mj_m119, mj_m120, mj_m121, mj_m122, mj_m123, mj_m124, mj_m125, mj_m126, mj_m127, mj_m128, mj_m129, mj_m130, mj_m131, mj_m132, mj_m133, mj_m134, mj_m135, mj_m136, mj_m137, mj_m138, mj_m139, mj_m140, mj_m141, mj_m142, mj_m143, mj_m144, mj_m145, mj_m146, mj_m147, mj_m148, mj_m149]
def mj_P_3 : List mj_M := [mj_m150, mj_m151, mj_m152, mj_m153, mj_m154, mj_m155, mj_m156, mj_m157, mj_m158, mj_m159, mj_m160, mj_m161, mj_m162, mj_m163, mj_m164, mj_m165, mj_m166, mj_m167, mj_m168, mj_m169, mj_m170, mj_m171, mj_m172, mj_m173, mj_m174, mj_m175, mj_m176, mj_m177, mj_m178, mj_m179, mj_m180, mj_m181, mj_m182, mj_m183, mj_m184, mj_m185, mj_m186, mj_m187, mj_m188, mj_m189, mj_m190, mj_m191, mj_m192, mj_m193, mj_m194, mj_m195, mj_m196, mj_m197, mj_m198, mj_m199]
def mj_P_4 : List mj_M := [mj_m200, mj_m201, mj_m202, mj_m203, mj_m204, mj_m205, mj_m206, mj_m207, mj_m208, mj_m209, mj_m210, mj_m211, mj_m212, mj_m213, mj_m214, mj_m215, mj_m216, mj_m217, mj_m218, mj_m219, mj_m220, mj_m221, mj_m222, mj_m223, mj_m224, mj_m225, mj_m226, mj_m227, mj_m228, mj_m229, mj_m230, mj_m231, mj_m232, mj_m233, mj_m234, mj_m235, mj_m236, mj_m237, mj_m238, mj_m239, mj_m240, mj_m241, mj_m242, mj_m243, mj_m244, mj_m245, mj_m246, mj_m247, mj_m248, mj_m249]
def mj_P_5 : List mj_M := [mj_m250, mj_m251, mj_m252, mj_m253, mj_m254, mj_m255, mj_m256, mj_m257, mj_m258, mj_m259, mj_m260, mj_m261, mj_m262, mj_m263, mj_m264, mj_m265, mj_m266, mj_m267, mj_m268, mj_m269, mj_m270, mj_m271, mj_m272, mj_m273, mj_m274, mj_m275, mj_m276, mj_m277, mj_m278, mj_m279, mj_m280, mj_m281, mj_m282, mj_m283, mj_m284, mj_m285, mj_m286, mj_m287, mj_m288, mj_m289, mj_m290, mj_m291, mj_m292, mj_m293, mj_m294, mj_m295, mj_m296, mj_m297, mj_m298, mj_m299]
def mj_P_6 : List mj_M := [mj_m300, mj_m301, mj_m302, mj_m303, mj_m304, mj_m305, mj_m306, mj_m307, mj_m308, mj_m309, mj_m310, mj_m311, mj_m312, mj_m313, mj_m314, mj_m315, mj_m316, mj_m317, mj_m318, mj_m319, mj_m320, mj_m321, mj_m322, mj_m323, mj_m324, mj_m325, mj_m326, mj_m327, mj_m328, mj_m329, mj_m330, mj_m331, mj_m332, mj_m333, mj_m334, mj_m335, mj_m336, mj_m337, mj_m338, mj_m339, mj_m340, mj_m341, mj_m342, mj_m343, mj_m344, mj_m345, mj_m346]
def mj_P : List mj_M := mj_P_0 ++ (mj_P_1 ++ (mj_P_2 ++ (mj_P_3 ++ (mj_P_4 ++ (mj_P_5 ++ (mj_P_6))))))
def mj_Thr : List (String × Nat × Nat) := [("PolyRegisters", 107, 1), ("PolyRegisters", 132, 2), ("PolyRegisters", 266, 0), ("PolyRegisters", 343, 4), ("PolyRegisters", 368, 3)]
end
section
/-! The kernel checks the table: each instruction against the bytes and the tables' words. -/
def mj_chk (P : List mj_M) (thr : List (String × Nat × Nat)) (y : MethodName) (cc : ByteArray) : Nat → List (Option mj_I) → Bool
  | _, [] => true
  | pc, none :: t => mj_chk P thr y cc (pc + 1) t
  | pc, some I :: t => mj_okX P thr y cc pc I && mj_chk P thr y cc (pc + 1) t
theorem mj_chk_of {P : List mj_M} {thr : List (String × Nat × Nat)} {y : MethodName} {cc : ByteArray} : ∀ {l : List (Option mj_I)} {o : Nat}, mj_chk P thr y cc o l = true → ∀ (pc : Nat) (I : mj_I), l[pc]? = some (some I) → mj_okX P thr y cc (o + pc) I = true
  | [], _, _, pc, I, h => by simp at h
  | none :: t, o, hc, pc, I, h => by
    cases pc with
    | zero => simp at h
    | succ k =>
      simp only [List.getElem?_cons_succ] at h
      have := mj_chk_of (l := t) (o := o + 1) hc k I h
      rw [show o + (k + 1) = o + 1 + k by omega]
      exact this
  | some J :: t, o, hc, pc, I, h => by
    simp only [mj_chk, Bool.and_eq_true] at hc
    cases pc with
    | zero =>
      simp only [List.getElem?_cons_zero, Option.some.injEq] at h
      subst h
      exact hc.1
    | succ k =>
      simp only [List.getElem?_cons_succ] at h
      have := mj_chk_of (l := t) (o := o + 1) hc.2 k I h
      rw [show o + (k + 1) = o + 1 + k by omega]
      exact this
theorem mj_look_of {l : List (Option mj_I)} {pc : Nat} {I : mj_I} (h : mj_look l pc = some I) : l[pc]? = some (some I) := by
  unfold mj_look at h
  split at h
  · rename_i x hx
    rw [hx, h]
  · cases h
/-- a method's check, as it stands in the table -/
def mj_chkM (M : mj_M) (l : List (Option mj_I)) : Bool := mj_okM M && mj_chk mj_P mj_Thr M.1 M.2.1 0 l
theorem mj_chkM_of {M : mj_M} {l : List (Option mj_I)} (hl : M.2.2.2.2.1 = mj_look l) (h : mj_chkM M l = true) : mj_okA mj_P mj_Thr M := by
  simp only [mj_chkM, Bool.and_eq_true] at h
  refine ⟨h.1, fun pc I hI => ?_⟩
  rw [hl] at hI
  have := mj_chk_of h.2 pc I (mj_look_of hI)
  rwa [Nat.zero_add] at this
theorem mj_k0 : mj_chkM mj_m0 mj_l0 = true := by decide +kernel
theorem mj_k1 : mj_chkM mj_m1 mj_l1 = true := by decide +kernel
theorem mj_k2 : mj_chkM mj_m2 mj_l2 = true := by decide +kernel
theorem mj_k3 : mj_chkM mj_m3 mj_l3 = true := by decide +kernel
theorem mj_k4 : mj_chkM mj_m4 mj_l4 = true := by decide +kernel
theorem mj_k5 : mj_chkM mj_m5 mj_l5 = true := by decide +kernel
theorem mj_k6 : mj_chkM mj_m6 mj_l6 = true := by decide +kernel
theorem mj_k7 : mj_chkM mj_m7 mj_l7 = true := by decide +kernel
theorem mj_k8 : mj_chkM mj_m8 mj_l8 = true := by decide +kernel
theorem mj_k9 : mj_chkM mj_m9 mj_l9 = true := by decide +kernel
theorem mj_k10 : mj_chkM mj_m10 mj_l10 = true := by decide +kernel
theorem mj_k11 : mj_chkM mj_m11 mj_l11 = true := by decide +kernel
theorem mj_k12 : mj_chkM mj_m12 mj_l12 = true := by decide +kernel
theorem mj_k13 : mj_chkM mj_m13 mj_l13 = true := by decide +kernel
theorem mj_k14 : mj_chkM mj_m14 mj_l14 = true := by decide +kernel
theorem mj_k15 : mj_chkM mj_m15 mj_l15 = true := by decide +kernel
theorem mj_k16 : mj_chkM mj_m16 mj_l16 = true := by decide +kernel
theorem mj_k17 : mj_chkM mj_m17 mj_l17 = true := by decide +kernel
theorem mj_k18 : mj_chkM mj_m18 mj_l18 = true := by decide +kernel
theorem mj_k19 : mj_chkM mj_m19 mj_l19 = true := by decide +kernel
theorem mj_k20 : mj_chkM mj_m20 mj_l20 = true := by decide +kernel
theorem mj_k21 : mj_chkM mj_m21 mj_l21 = true := by decide +kernel
theorem mj_k22 : mj_chkM mj_m22 mj_l22 = true := by decide +kernel
theorem mj_k23 : mj_chkM mj_m23 mj_l23 = true := by decide +kernel
theorem mj_k24 : mj_chkM mj_m24 mj_l24 = true := by decide +kernel
theorem mj_k25 : mj_chkM mj_m25 mj_l25 = true := by decide +kernel
theorem mj_k26 : mj_chkM mj_m26 mj_l26 = true := by decide +kernel
theorem mj_k27 : mj_chkM mj_m27 mj_l27 = true := by decide +kernel
theorem mj_k28 : mj_chkM mj_m28 mj_l28 = true := by decide +kernel
theorem mj_k29 : mj_chkM mj_m29 mj_l29 = true := by decide +kernel
theorem mj_k30 : mj_chkM mj_m30 mj_l30 = true := by decide +kernel
theorem mj_k31 : mj_chkM mj_m31 mj_l31 = true := by decide +kernel
theorem mj_k32 : mj_chkM mj_m32 mj_l32 = true := by decide +kernel
theorem mj_k33 : mj_chkM mj_m33 mj_l33 = true := by decide +kernel
theorem mj_k34 : mj_chkM mj_m34 mj_l34 = true := by decide +kernel
theorem mj_k35 : mj_chkM mj_m35 mj_l35 = true := by decide +kernel
theorem mj_k36 : mj_chkM mj_m36 mj_l36 = true := by decide +kernel
theorem mj_k37 : mj_chkM mj_m37 mj_l37 = true := by decide +kernel
theorem mj_k38 : mj_chkM mj_m38 mj_l38 = true := by decide +kernel
theorem mj_k39 : mj_chkM mj_m39 mj_l39 = true := by decide +kernel
theorem mj_k40 : mj_chkM mj_m40 mj_l40 = true := by decide +kernel
theorem mj_k41 : mj_chkM mj_m41 mj_l41 = true := by decide +kernel
theorem mj_k42 : mj_chkM mj_m42 mj_l42 = true := by decide +kernel
theorem mj_k43 : mj_chkM mj_m43 mj_l43 = true := by decide +kernel
theorem mj_k44 : mj_chkM mj_m44 mj_l44 = true := by decide +kernel
theorem mj_k45 : mj_chkM mj_m45 mj_l45 = true := by decide +kernel
theorem mj_k46 : mj_chkM mj_m46 mj_l46 = true := by decide +kernel
theorem mj_k47 : mj_chkM mj_m47 mj_l47 = true := by decide +kernel
theorem mj_k48 : mj_chkM mj_m48 mj_l48 = true := by decide +kernel
theorem mj_k49 : mj_chkM mj_m49 mj_l49 = true := by decide +kernel
theorem mj_K_0 : ∀ (j : Nat) (M : mj_M), mj_P_0[j]? = some M → mj_okA mj_P mj_Thr M := by
  intro j M h
  match j, h with
  | 0, h => cases h; exact mj_chkM_of rfl mj_k0
  | 1, h => cases h; exact mj_chkM_of rfl mj_k1
  | 2, h => cases h; exact mj_chkM_of rfl mj_k2
  | 3, h => cases h; exact mj_chkM_of rfl mj_k3
  | 4, h => cases h; exact mj_chkM_of rfl mj_k4
  | 5, h => cases h; exact mj_chkM_of rfl mj_k5
  | 6, h => cases h; exact mj_chkM_of rfl mj_k6
  | 7, h => cases h; exact mj_chkM_of rfl mj_k7
  | 8, h => cases h; exact mj_chkM_of rfl mj_k8
  | 9, h => cases h; exact mj_chkM_of rfl mj_k9
  | 10, h => cases h; exact mj_chkM_of rfl mj_k10
  | 11, h => cases h; exact mj_chkM_of rfl mj_k11
  | 12, h => cases h; exact mj_chkM_of rfl mj_k12
  | 13, h => cases h; exact mj_chkM_of rfl mj_k13
  | 14, h => cases h; exact mj_chkM_of rfl mj_k14
  | 15, h => cases h; exact mj_chkM_of rfl mj_k15
  | 16, h => cases h; exact mj_chkM_of rfl mj_k16
  | 17, h => cases h; exact mj_chkM_of rfl mj_k17
  | 18, h => cases h; exact mj_chkM_of rfl mj_k18
  | 19, h => cases h; exact mj_chkM_of rfl mj_k19
  | 20, h => cases h; exact mj_chkM_of rfl mj_k20
  | 21, h => cases h; exact mj_chkM_of rfl mj_k21
  | 22, h => cases h; exact mj_chkM_of rfl mj_k22
  | 23, h => cases h; exact mj_chkM_of rfl mj_k23
  | 24, h => cases h; exact mj_chkM_of rfl mj_k24
  | 25, h => cases h; exact mj_chkM_of rfl mj_k25
  | 26, h => cases h; exact mj_chkM_of rfl mj_k26
  | 27, h => cases h; exact mj_chkM_of rfl mj_k27
  | 28, h => cases h; exact mj_chkM_of rfl mj_k28
  | 29, h => cases h; exact mj_chkM_of rfl mj_k29
  | 30, h => cases h; exact mj_chkM_of rfl mj_k30
  | 31, h => cases h; exact mj_chkM_of rfl mj_k31
  | 32, h => cases h; exact mj_chkM_of rfl mj_k32
  | 33, h => cases h; exact mj_chkM_of rfl mj_k33
  | 34, h => cases h; exact mj_chkM_of rfl mj_k34
  | 35, h => cases h; exact mj_chkM_of rfl mj_k35
  | 36, h => cases h; exact mj_chkM_of rfl mj_k36
  | 37, h => cases h; exact mj_chkM_of rfl mj_k37
  | 38, h => cases h; exact mj_chkM_of rfl mj_k38
  | 39, h => cases h; exact mj_chkM_of rfl mj_k39
  | 40, h => cases h; exact mj_chkM_of rfl mj_k40
  | 41, h => cases h; exact mj_chkM_of rfl mj_k41
  | 42, h => cases h; exact mj_chkM_of rfl mj_k42
  | 43, h => cases h; exact mj_chkM_of rfl mj_k43
  | 44, h => cases h; exact mj_chkM_of rfl mj_k44
  | 45, h => cases h; exact mj_chkM_of rfl mj_k45
  | 46, h => cases h; exact mj_chkM_of rfl mj_k46
  | 47, h => cases h; exact mj_chkM_of rfl mj_k47
  | 48, h => cases h; exact mj_chkM_of rfl mj_k48
  | 49, h => cases h; exact mj_chkM_of rfl mj_k49
  | j + 50, h => simp [mj_P_0] at h
end
section
theorem mj_k50 : mj_chkM mj_m50 mj_l50 = true := by decide +kernel
theorem mj_k51 : mj_chkM mj_m51 mj_l51 = true := by decide +kernel
theorem mj_k52 : mj_chkM mj_m52 mj_l52 = true := by decide +kernel
theorem mj_k53 : mj_chkM mj_m53 mj_l53 = true := by decide +kernel
theorem mj_k54 : mj_chkM mj_m54 mj_l54 = true := by decide +kernel
theorem mj_k55 : mj_chkM mj_m55 mj_l55 = true := by decide +kernel
theorem mj_k56 : mj_chkM mj_m56 mj_l56 = true := by decide +kernel
theorem mj_k57 : mj_chkM mj_m57 mj_l57 = true := by decide +kernel
theorem mj_k58 : mj_chkM mj_m58 mj_l58 = true := by decide +kernel
theorem mj_k59 : mj_chkM mj_m59 mj_l59 = true := by decide +kernel
theorem mj_k60 : mj_chkM mj_m60 mj_l60 = true := by decide +kernel
theorem mj_k61 : mj_chkM mj_m61 mj_l61 = true := by decide +kernel
theorem mj_k62 : mj_chkM mj_m62 mj_l62 = true := by decide +kernel
theorem mj_k63 : mj_chkM mj_m63 mj_l63 = true := by decide +kernel
theorem mj_k64 : mj_chkM mj_m64 mj_l64 = true := by decide +kernel
theorem mj_k65 : mj_chkM mj_m65 mj_l65 = true := by decide +kernel
theorem mj_k66 : mj_chkM mj_m66 mj_l66 = true := by decide +kernel
theorem mj_k67 : mj_chkM mj_m67 mj_l67 = true := by decide +kernel
theorem mj_k68 : mj_chkM mj_m68 mj_l68 = true := by decide +kernel
theorem mj_k69 : mj_chkM mj_m69 mj_l69 = true := by decide +kernel
theorem mj_k70 : mj_chkM mj_m70 mj_l70 = true := by decide +kernel
theorem mj_k71 : mj_chkM mj_m71 mj_l71 = true := by decide +kernel
theorem mj_k72 : mj_chkM mj_m72 mj_l72 = true := by decide +kernel
theorem mj_k73 : mj_chkM mj_m73 mj_l73 = true := by decide +kernel
theorem mj_k74 : mj_chkM mj_m74 mj_l74 = true := by decide +kernel
theorem mj_k75 : mj_chkM mj_m75 mj_l75 = true := by decide +kernel
theorem mj_k76 : mj_chkM mj_m76 mj_l76 = true := by decide +kernel
theorem mj_k77 : mj_chkM mj_m77 mj_l77 = true := by decide +kernel
theorem mj_k78 : mj_chkM mj_m78 mj_l78 = true := by decide +kernel
theorem mj_k79 : mj_chkM mj_m79 mj_l79 = true := by decide +kernel
theorem mj_k80 : mj_chkM mj_m80 mj_l80 = true := by decide +kernel
theorem mj_k81 : mj_chkM mj_m81 mj_l81 = true := by decide +kernel
theorem mj_k82 : mj_chkM mj_m82 mj_l82 = true := by decide +kernel
theorem mj_k83 : mj_chkM mj_m83 mj_l83 = true := by decide +kernel
theorem mj_k84 : mj_chkM mj_m84 mj_l84 = true := by decide +kernel
theorem mj_k85 : mj_chkM mj_m85 mj_l85 = true := by decide +kernel
theorem mj_k86 : mj_chkM mj_m86 mj_l86 = true := by decide +kernel
theorem mj_k87 : mj_chkM mj_m87 mj_l87 = true := by decide +kernel
theorem mj_k88 : mj_chkM mj_m88 mj_l88 = true := by decide +kernel
theorem mj_k89 : mj_chkM mj_m89 mj_l89 = true := by decide +kernel
theorem mj_k90 : mj_chkM mj_m90 mj_l90 = true := by decide +kernel
theorem mj_k91 : mj_chkM mj_m91 mj_l91 = true := by decide +kernel
theorem mj_k92 : mj_chkM mj_m92 mj_l92 = true := by decide +kernel
theorem mj_k93 : mj_chkM mj_m93 mj_l93 = true := by decide +kernel
theorem mj_k94 : mj_chkM mj_m94 mj_l94 = true := by decide +kernel
theorem mj_k95 : mj_chkM mj_m95 mj_l95 = true := by decide +kernel
theorem mj_k96 : mj_chkM mj_m96 mj_l96 = true := by decide +kernel
theorem mj_k97 : mj_chkM mj_m97 mj_l97 = true := by decide +kernel
theorem mj_k98 : mj_chkM mj_m98 mj_l98 = true := by decide +kernel
theorem mj_k99 : mj_chkM mj_m99 mj_l99 = true := by decide +kernel
theorem mj_K_1 : ∀ (j : Nat) (M : mj_M), mj_P_1[j]? = some M → mj_okA mj_P mj_Thr M := by
  intro j M h
  match j, h with
  | 0, h => cases h; exact mj_chkM_of rfl mj_k50
  | 1, h => cases h; exact mj_chkM_of rfl mj_k51
  | 2, h => cases h; exact mj_chkM_of rfl mj_k52
  | 3, h => cases h; exact mj_chkM_of rfl mj_k53
  | 4, h => cases h; exact mj_chkM_of rfl mj_k54
  | 5, h => cases h; exact mj_chkM_of rfl mj_k55
  | 6, h => cases h; exact mj_chkM_of rfl mj_k56
  | 7, h => cases h; exact mj_chkM_of rfl mj_k57
  | 8, h => cases h; exact mj_chkM_of rfl mj_k58
  | 9, h => cases h; exact mj_chkM_of rfl mj_k59
  | 10, h => cases h; exact mj_chkM_of rfl mj_k60
  | 11, h => cases h; exact mj_chkM_of rfl mj_k61
  | 12, h => cases h; exact mj_chkM_of rfl mj_k62
  | 13, h => cases h; exact mj_chkM_of rfl mj_k63
  | 14, h => cases h; exact mj_chkM_of rfl mj_k64
  | 15, h => cases h; exact mj_chkM_of rfl mj_k65
  | 16, h => cases h; exact mj_chkM_of rfl mj_k66
  | 17, h => cases h; exact mj_chkM_of rfl mj_k67
  | 18, h => cases h; exact mj_chkM_of rfl mj_k68
  | 19, h => cases h; exact mj_chkM_of rfl mj_k69
  | 20, h => cases h; exact mj_chkM_of rfl mj_k70
  | 21, h => cases h; exact mj_chkM_of rfl mj_k71
  | 22, h => cases h; exact mj_chkM_of rfl mj_k72
  | 23, h => cases h; exact mj_chkM_of rfl mj_k73
  | 24, h => cases h; exact mj_chkM_of rfl mj_k74
  | 25, h => cases h; exact mj_chkM_of rfl mj_k75
  | 26, h => cases h; exact mj_chkM_of rfl mj_k76
  | 27, h => cases h; exact mj_chkM_of rfl mj_k77
  | 28, h => cases h; exact mj_chkM_of rfl mj_k78
  | 29, h => cases h; exact mj_chkM_of rfl mj_k79
  | 30, h => cases h; exact mj_chkM_of rfl mj_k80
  | 31, h => cases h; exact mj_chkM_of rfl mj_k81
  | 32, h => cases h; exact mj_chkM_of rfl mj_k82
  | 33, h => cases h; exact mj_chkM_of rfl mj_k83
  | 34, h => cases h; exact mj_chkM_of rfl mj_k84
  | 35, h => cases h; exact mj_chkM_of rfl mj_k85
  | 36, h => cases h; exact mj_chkM_of rfl mj_k86
  | 37, h => cases h; exact mj_chkM_of rfl mj_k87
  | 38, h => cases h; exact mj_chkM_of rfl mj_k88
  | 39, h => cases h; exact mj_chkM_of rfl mj_k89
  | 40, h => cases h; exact mj_chkM_of rfl mj_k90
  | 41, h => cases h; exact mj_chkM_of rfl mj_k91
  | 42, h => cases h; exact mj_chkM_of rfl mj_k92
  | 43, h => cases h; exact mj_chkM_of rfl mj_k93
  | 44, h => cases h; exact mj_chkM_of rfl mj_k94
  | 45, h => cases h; exact mj_chkM_of rfl mj_k95
  | 46, h => cases h; exact mj_chkM_of rfl mj_k96
  | 47, h => cases h; exact mj_chkM_of rfl mj_k97
  | 48, h => cases h; exact mj_chkM_of rfl mj_k98
  | 49, h => cases h; exact mj_chkM_of rfl mj_k99
  | j + 50, h => simp [mj_P_1] at h
end
section
theorem mj_k100 : mj_chkM mj_m100 mj_l100 = true := by decide +kernel
theorem mj_k101 : mj_chkM mj_m101 mj_l101 = true := by decide +kernel
theorem mj_k102 : mj_chkM mj_m102 mj_l102 = true := by decide +kernel
theorem mj_k103 : mj_chkM mj_m103 mj_l103 = true := by decide +kernel
theorem mj_k104 : mj_chkM mj_m104 mj_l104 = true := by decide +kernel
theorem mj_k105 : mj_chkM mj_m105 mj_l105 = true := by decide +kernel
theorem mj_k106 : mj_chkM mj_m106 mj_l106 = true := by decide +kernel
theorem mj_k107 : mj_chkM mj_m107 mj_l107 = true := by decide +kernel
theorem mj_k108 : mj_chkM mj_m108 mj_l108 = true := by decide +kernel
theorem mj_k109 : mj_chkM mj_m109 mj_l109 = true := by decide +kernel
theorem mj_k110 : mj_chkM mj_m110 mj_l110 = true := by decide +kernel
theorem mj_k111 : mj_chkM mj_m111 mj_l111 = true := by decide +kernel
theorem mj_k112 : mj_chkM mj_m112 mj_l112 = true := by decide +kernel
theorem mj_k113 : mj_chkM mj_m113 mj_l113 = true := by decide +kernel
theorem mj_k114 : mj_chkM mj_m114 mj_l114 = true := by decide +kernel
theorem mj_k115 : mj_chkM mj_m115 mj_l115 = true := by decide +kernel
theorem mj_k116 : mj_chkM mj_m116 mj_l116 = true := by decide +kernel
theorem mj_k117 : mj_chkM mj_m117 mj_l117 = true := by decide +kernel
theorem mj_k118 : mj_chkM mj_m118 mj_l118 = true := by decide +kernel
theorem mj_k119 : mj_chkM mj_m119 mj_l119 = true := by decide +kernel
theorem mj_k120 : mj_chkM mj_m120 mj_l120 = true := by decide +kernel
theorem mj_k121 : mj_chkM mj_m121 mj_l121 = true := by decide +kernel
theorem mj_k122 : mj_chkM mj_m122 mj_l122 = true := by decide +kernel
theorem mj_k123 : mj_chkM mj_m123 mj_l123 = true := by decide +kernel
theorem mj_k124 : mj_chkM mj_m124 mj_l124 = true := by decide +kernel
theorem mj_k125 : mj_chkM mj_m125 mj_l125 = true := by decide +kernel
theorem mj_k126 : mj_chkM mj_m126 mj_l126 = true := by decide +kernel
theorem mj_k127 : mj_chkM mj_m127 mj_l127 = true := by decide +kernel
theorem mj_k128 : mj_chkM mj_m128 mj_l128 = true := by decide +kernel
theorem mj_k129 : mj_chkM mj_m129 mj_l129 = true := by decide +kernel
theorem mj_k130 : mj_chkM mj_m130 mj_l130 = true := by decide +kernel
theorem mj_k131 : mj_chkM mj_m131 mj_l131 = true := by decide +kernel
theorem mj_k132 : mj_chkM mj_m132 mj_l132 = true := by decide +kernel
theorem mj_k133 : mj_chkM mj_m133 mj_l133 = true := by decide +kernel
theorem mj_k134 : mj_chkM mj_m134 mj_l134 = true := by decide +kernel
theorem mj_k135 : mj_chkM mj_m135 mj_l135 = true := by decide +kernel
theorem mj_k136 : mj_chkM mj_m136 mj_l136 = true := by decide +kernel
theorem mj_k137 : mj_chkM mj_m137 mj_l137 = true := by decide +kernel
theorem mj_k138 : mj_chkM mj_m138 mj_l138 = true := by decide +kernel
theorem mj_k139 : mj_chkM mj_m139 mj_l139 = true := by decide +kernel
theorem mj_k140 : mj_chkM mj_m140 mj_l140 = true := by decide +kernel
theorem mj_k141 : mj_chkM mj_m141 mj_l141 = true := by decide +kernel
theorem mj_k142 : mj_chkM mj_m142 mj_l142 = true := by decide +kernel
theorem mj_k143 : mj_chkM mj_m143 mj_l143 = true := by decide +kernel
theorem mj_k144 : mj_chkM mj_m144 mj_l144 = true := by decide +kernel
theorem mj_k145 : mj_chkM mj_m145 mj_l145 = true := by decide +kernel
theorem mj_k146 : mj_chkM mj_m146 mj_l146 = true := by decide +kernel
theorem mj_k147 : mj_chkM mj_m147 mj_l147 = true := by decide +kernel
theorem mj_k148 : mj_chkM mj_m148 mj_l148 = true := by decide +kernel
theorem mj_k149 : mj_chkM mj_m149 mj_l149 = true := by decide +kernel
theorem mj_K_2 : ∀ (j : Nat) (M : mj_M), mj_P_2[j]? = some M → mj_okA mj_P mj_Thr M := by
  intro j M h
  match j, h with
  | 0, h => cases h; exact mj_chkM_of rfl mj_k100
  | 1, h => cases h; exact mj_chkM_of rfl mj_k101
  | 2, h => cases h; exact mj_chkM_of rfl mj_k102
  | 3, h => cases h; exact mj_chkM_of rfl mj_k103
  | 4, h => cases h; exact mj_chkM_of rfl mj_k104
  | 5, h => cases h; exact mj_chkM_of rfl mj_k105
  | 6, h => cases h; exact mj_chkM_of rfl mj_k106
  | 7, h => cases h; exact mj_chkM_of rfl mj_k107
  | 8, h => cases h; exact mj_chkM_of rfl mj_k108
  | 9, h => cases h; exact mj_chkM_of rfl mj_k109
  | 10, h => cases h; exact mj_chkM_of rfl mj_k110
  | 11, h => cases h; exact mj_chkM_of rfl mj_k111
  | 12, h => cases h; exact mj_chkM_of rfl mj_k112
  | 13, h => cases h; exact mj_chkM_of rfl mj_k113
  | 14, h => cases h; exact mj_chkM_of rfl mj_k114
  | 15, h => cases h; exact mj_chkM_of rfl mj_k115
  | 16, h => cases h; exact mj_chkM_of rfl mj_k116
  | 17, h => cases h; exact mj_chkM_of rfl mj_k117
  | 18, h => cases h; exact mj_chkM_of rfl mj_k118
  | 19, h => cases h; exact mj_chkM_of rfl mj_k119
  | 20, h => cases h; exact mj_chkM_of rfl mj_k120
  | 21, h => cases h; exact mj_chkM_of rfl mj_k121
  | 22, h => cases h; exact mj_chkM_of rfl mj_k122
  | 23, h => cases h; exact mj_chkM_of rfl mj_k123
  | 24, h => cases h; exact mj_chkM_of rfl mj_k124
  | 25, h => cases h; exact mj_chkM_of rfl mj_k125
  | 26, h => cases h; exact mj_chkM_of rfl mj_k126
  | 27, h => cases h; exact mj_chkM_of rfl mj_k127
  | 28, h => cases h; exact mj_chkM_of rfl mj_k128
  | 29, h => cases h; exact mj_chkM_of rfl mj_k129
  | 30, h => cases h; exact mj_chkM_of rfl mj_k130
  | 31, h => cases h; exact mj_chkM_of rfl mj_k131
  | 32, h => cases h; exact mj_chkM_of rfl mj_k132
  | 33, h => cases h; exact mj_chkM_of rfl mj_k133
  | 34, h => cases h; exact mj_chkM_of rfl mj_k134
  | 35, h => cases h; exact mj_chkM_of rfl mj_k135
  | 36, h => cases h; exact mj_chkM_of rfl mj_k136
  | 37, h => cases h; exact mj_chkM_of rfl mj_k137
  | 38, h => cases h; exact mj_chkM_of rfl mj_k138
  | 39, h => cases h; exact mj_chkM_of rfl mj_k139
  | 40, h => cases h; exact mj_chkM_of rfl mj_k140
  | 41, h => cases h; exact mj_chkM_of rfl mj_k141
  | 42, h => cases h; exact mj_chkM_of rfl mj_k142
  | 43, h => cases h; exact mj_chkM_of rfl mj_k143
  | 44, h => cases h; exact mj_chkM_of rfl mj_k144
  | 45, h => cases h; exact mj_chkM_of rfl mj_k145
  | 46, h => cases h; exact mj_chkM_of rfl mj_k146
  | 47, h => cases h; exact mj_chkM_of rfl mj_k147
  | 48, h => cases h; exact mj_chkM_of rfl mj_k148
  | 49, h => cases h; exact mj_chkM_of rfl mj_k149
  | j + 50, h => simp [mj_P_2] at h
end
section
theorem mj_k150 : mj_chkM mj_m150 mj_l150 = true := by decide +kernel
theorem mj_k151 : mj_chkM mj_m151 mj_l151 = true := by decide +kernel
theorem mj_k152 : mj_chkM mj_m152 mj_l152 = true := by decide +kernel
theorem mj_k153 : mj_chkM mj_m153 mj_l153 = true := by decide +kernel
theorem mj_k154 : mj_chkM mj_m154 mj_l154 = true := by decide +kernel
theorem mj_k155 : mj_chkM mj_m155 mj_l155 = true := by decide +kernel
theorem mj_k156 : mj_chkM mj_m156 mj_l156 = true := by decide +kernel
theorem mj_k157 : mj_chkM mj_m157 mj_l157 = true := by decide +kernel
theorem mj_k158 : mj_chkM mj_m158 mj_l158 = true := by decide +kernel
theorem mj_k159 : mj_chkM mj_m159 mj_l159 = true := by decide +kernel
theorem mj_k160 : mj_chkM mj_m160 mj_l160 = true := by decide +kernel
theorem mj_k161 : mj_chkM mj_m161 mj_l161 = true := by decide +kernel
theorem mj_k162 : mj_chkM mj_m162 mj_l162 = true := by decide +kernel
theorem mj_k163 : mj_chkM mj_m163 mj_l163 = true := by decide +kernel
theorem mj_k164 : mj_chkM mj_m164 mj_l164 = true := by decide +kernel
theorem mj_k165 : mj_chkM mj_m165 mj_l165 = true := by decide +kernel
theorem mj_k166 : mj_chkM mj_m166 mj_l166 = true := by decide +kernel
theorem mj_k167 : mj_chkM mj_m167 mj_l167 = true := by decide +kernel
theorem mj_k168 : mj_chkM mj_m168 mj_l168 = true := by decide +kernel
theorem mj_k169 : mj_chkM mj_m169 mj_l169 = true := by decide +kernel
theorem mj_k170 : mj_chkM mj_m170 mj_l170 = true := by decide +kernel
theorem mj_k171 : mj_chkM mj_m171 mj_l171 = true := by decide +kernel
theorem mj_k172 : mj_chkM mj_m172 mj_l172 = true := by decide +kernel
theorem mj_k173 : mj_chkM mj_m173 mj_l173 = true := by decide +kernel
theorem mj_k174 : mj_chkM mj_m174 mj_l174 = true := by decide +kernel
theorem mj_k175 : mj_chkM mj_m175 mj_l175 = true := by decide +kernel
theorem mj_k176 : mj_chkM mj_m176 mj_l176 = true := by decide +kernel
theorem mj_k177 : mj_chkM mj_m177 mj_l177 = true := by decide +kernel
theorem mj_k178 : mj_chkM mj_m178 mj_l178 = true := by decide +kernel
theorem mj_k179 : mj_chkM mj_m179 mj_l179 = true := by decide +kernel
theorem mj_k180 : mj_chkM mj_m180 mj_l180 = true := by decide +kernel
theorem mj_k181 : mj_chkM mj_m181 mj_l181 = true := by decide +kernel
theorem mj_k182 : mj_chkM mj_m182 mj_l182 = true := by decide +kernel
theorem mj_k183 : mj_chkM mj_m183 mj_l183 = true := by decide +kernel
theorem mj_k184 : mj_chkM mj_m184 mj_l184 = true := by decide +kernel
theorem mj_k185 : mj_chkM mj_m185 mj_l185 = true := by decide +kernel
theorem mj_k186 : mj_chkM mj_m186 mj_l186 = true := by decide +kernel
theorem mj_k187 : mj_chkM mj_m187 mj_l187 = true := by decide +kernel
theorem mj_k188 : mj_chkM mj_m188 mj_l188 = true := by decide +kernel
theorem mj_k189 : mj_chkM mj_m189 mj_l189 = true := by decide +kernel
theorem mj_k190 : mj_chkM mj_m190 mj_l190 = true := by decide +kernel
theorem mj_k191 : mj_chkM mj_m191 mj_l191 = true := by decide +kernel
theorem mj_k192 : mj_chkM mj_m192 mj_l192 = true := by decide +kernel
theorem mj_k193 : mj_chkM mj_m193 mj_l193 = true := by decide +kernel
theorem mj_k194 : mj_chkM mj_m194 mj_l194 = true := by decide +kernel
theorem mj_k195 : mj_chkM mj_m195 mj_l195 = true := by decide +kernel
theorem mj_k196 : mj_chkM mj_m196 mj_l196 = true := by decide +kernel
theorem mj_k197 : mj_chkM mj_m197 mj_l197 = true := by decide +kernel
theorem mj_k198 : mj_chkM mj_m198 mj_l198 = true := by decide +kernel
theorem mj_k199 : mj_chkM mj_m199 mj_l199 = true := by decide +kernel
theorem mj_K_3 : ∀ (j : Nat) (M : mj_M), mj_P_3[j]? = some M → mj_okA mj_P mj_Thr M := by
  intro j M h
  match j, h with
  | 0, h => cases h; exact mj_chkM_of rfl mj_k150
  | 1, h => cases h; exact mj_chkM_of rfl mj_k151
  | 2, h => cases h; exact mj_chkM_of rfl mj_k152
  | 3, h => cases h; exact mj_chkM_of rfl mj_k153
  | 4, h => cases h; exact mj_chkM_of rfl mj_k154
  | 5, h => cases h; exact mj_chkM_of rfl mj_k155
  | 6, h => cases h; exact mj_chkM_of rfl mj_k156
  | 7, h => cases h; exact mj_chkM_of rfl mj_k157
  | 8, h => cases h; exact mj_chkM_of rfl mj_k158
  | 9, h => cases h; exact mj_chkM_of rfl mj_k159
  | 10, h => cases h; exact mj_chkM_of rfl mj_k160
  | 11, h => cases h; exact mj_chkM_of rfl mj_k161
  | 12, h => cases h; exact mj_chkM_of rfl mj_k162
  | 13, h => cases h; exact mj_chkM_of rfl mj_k163
  | 14, h => cases h; exact mj_chkM_of rfl mj_k164
  | 15, h => cases h; exact mj_chkM_of rfl mj_k165
  | 16, h => cases h; exact mj_chkM_of rfl mj_k166
  | 17, h => cases h; exact mj_chkM_of rfl mj_k167
  | 18, h => cases h; exact mj_chkM_of rfl mj_k168
  | 19, h => cases h; exact mj_chkM_of rfl mj_k169
  | 20, h => cases h; exact mj_chkM_of rfl mj_k170
  | 21, h => cases h; exact mj_chkM_of rfl mj_k171
  | 22, h => cases h; exact mj_chkM_of rfl mj_k172
  | 23, h => cases h; exact mj_chkM_of rfl mj_k173
  | 24, h => cases h; exact mj_chkM_of rfl mj_k174
  | 25, h => cases h; exact mj_chkM_of rfl mj_k175
  | 26, h => cases h; exact mj_chkM_of rfl mj_k176
  | 27, h => cases h; exact mj_chkM_of rfl mj_k177
  | 28, h => cases h; exact mj_chkM_of rfl mj_k178
  | 29, h => cases h; exact mj_chkM_of rfl mj_k179
  | 30, h => cases h; exact mj_chkM_of rfl mj_k180
  | 31, h => cases h; exact mj_chkM_of rfl mj_k181
  | 32, h => cases h; exact mj_chkM_of rfl mj_k182
  | 33, h => cases h; exact mj_chkM_of rfl mj_k183
  | 34, h => cases h; exact mj_chkM_of rfl mj_k184
  | 35, h => cases h; exact mj_chkM_of rfl mj_k185
  | 36, h => cases h; exact mj_chkM_of rfl mj_k186
  | 37, h => cases h; exact mj_chkM_of rfl mj_k187
  | 38, h => cases h; exact mj_chkM_of rfl mj_k188
  | 39, h => cases h; exact mj_chkM_of rfl mj_k189
  | 40, h => cases h; exact mj_chkM_of rfl mj_k190
  | 41, h => cases h; exact mj_chkM_of rfl mj_k191
  | 42, h => cases h; exact mj_chkM_of rfl mj_k192
  | 43, h => cases h; exact mj_chkM_of rfl mj_k193
  | 44, h => cases h; exact mj_chkM_of rfl mj_k194
  | 45, h => cases h; exact mj_chkM_of rfl mj_k195
  | 46, h => cases h; exact mj_chkM_of rfl mj_k196
  | 47, h => cases h; exact mj_chkM_of rfl mj_k197
  | 48, h => cases h; exact mj_chkM_of rfl mj_k198
  | 49, h => cases h; exact mj_chkM_of rfl mj_k199
  | j + 50, h => simp [mj_P_3] at h
end
section
theorem mj_k200 : mj_chkM mj_m200 mj_l200 = true := by decide +kernel
theorem mj_k201 : mj_chkM mj_m201 mj_l201 = true := by decide +kernel
theorem mj_k202 : mj_chkM mj_m202 mj_l202 = true := by decide +kernel
theorem mj_k203 : mj_chkM mj_m203 mj_l203 = true := by decide +kernel
theorem mj_k204 : mj_chkM mj_m204 mj_l204 = true := by decide +kernel
theorem mj_k205 : mj_chkM mj_m205 mj_l205 = true := by decide +kernel
theorem mj_k206 : mj_chkM mj_m206 mj_l206 = true := by decide +kernel
theorem mj_k207 : mj_chkM mj_m207 mj_l207 = true := by decide +kernel
theorem mj_k208 : mj_chkM mj_m208 mj_l208 = true := by decide +kernel
theorem mj_k209 : mj_chkM mj_m209 mj_l209 = true := by decide +kernel
theorem mj_k210 : mj_chkM mj_m210 mj_l210 = true := by decide +kernel
theorem mj_k211 : mj_chkM mj_m211 mj_l211 = true := by decide +kernel
theorem mj_k212 : mj_chkM mj_m212 mj_l212 = true := by decide +kernel
theorem mj_k213 : mj_chkM mj_m213 mj_l213 = true := by decide +kernel
theorem mj_k214 : mj_chkM mj_m214 mj_l214 = true := by decide +kernel
theorem mj_k215 : mj_chkM mj_m215 mj_l215 = true := by decide +kernel
theorem mj_k216 : mj_chkM mj_m216 mj_l216 = true := by decide +kernel
theorem mj_k217 : mj_chkM mj_m217 mj_l217 = true := by decide +kernel
theorem mj_k218 : mj_chkM mj_m218 mj_l218 = true := by decide +kernel
theorem mj_k219 : mj_chkM mj_m219 mj_l219 = true := by decide +kernel
theorem mj_k220 : mj_chkM mj_m220 mj_l220 = true := by decide +kernel
theorem mj_k221 : mj_chkM mj_m221 mj_l221 = true := by decide +kernel
theorem mj_k222 : mj_chkM mj_m222 mj_l222 = true := by decide +kernel
theorem mj_k223 : mj_chkM mj_m223 mj_l223 = true := by decide +kernel
theorem mj_k224 : mj_chkM mj_m224 mj_l224 = true := by decide +kernel
theorem mj_k225 : mj_chkM mj_m225 mj_l225 = true := by decide +kernel
theorem mj_k226 : mj_chkM mj_m226 mj_l226 = true := by decide +kernel
theorem mj_k227 : mj_chkM mj_m227 mj_l227 = true := by decide +kernel
theorem mj_k228 : mj_chkM mj_m228 mj_l228 = true := by decide +kernel
theorem mj_k229 : mj_chkM mj_m229 mj_l229 = true := by decide +kernel
theorem mj_k230 : mj_chkM mj_m230 mj_l230 = true := by decide +kernel
theorem mj_k231 : mj_chkM mj_m231 mj_l231 = true := by decide +kernel
theorem mj_k232 : mj_chkM mj_m232 mj_l232 = true := by decide +kernel
theorem mj_k233 : mj_chkM mj_m233 mj_l233 = true := by decide +kernel
theorem mj_k234 : mj_chkM mj_m234 mj_l234 = true := by decide +kernel
theorem mj_k235 : mj_chkM mj_m235 mj_l235 = true := by decide +kernel
theorem mj_k236 : mj_chkM mj_m236 mj_l236 = true := by decide +kernel
theorem mj_k237 : mj_chkM mj_m237 mj_l237 = true := by decide +kernel
theorem mj_k238 : mj_chkM mj_m238 mj_l238 = true := by decide +kernel
theorem mj_k239 : mj_chkM mj_m239 mj_l239 = true := by decide +kernel
theorem mj_k240 : mj_chkM mj_m240 mj_l240 = true := by decide +kernel
theorem mj_k241 : mj_chkM mj_m241 mj_l241 = true := by decide +kernel
theorem mj_k242 : mj_chkM mj_m242 mj_l242 = true := by decide +kernel
theorem mj_k243 : mj_chkM mj_m243 mj_l243 = true := by decide +kernel
theorem mj_k244 : mj_chkM mj_m244 mj_l244 = true := by decide +kernel
theorem mj_k245 : mj_chkM mj_m245 mj_l245 = true := by decide +kernel
theorem mj_k246 : mj_chkM mj_m246 mj_l246 = true := by decide +kernel
theorem mj_k247 : mj_chkM mj_m247 mj_l247 = true := by decide +kernel
theorem mj_k248 : mj_chkM mj_m248 mj_l248 = true := by decide +kernel
theorem mj_k249 : mj_chkM mj_m249 mj_l249 = true := by decide +kernel
theorem mj_K_4 : ∀ (j : Nat) (M : mj_M), mj_P_4[j]? = some M → mj_okA mj_P mj_Thr M := by
  intro j M h
  match j, h with
  | 0, h => cases h; exact mj_chkM_of rfl mj_k200
  | 1, h => cases h; exact mj_chkM_of rfl mj_k201
  | 2, h => cases h; exact mj_chkM_of rfl mj_k202
  | 3, h => cases h; exact mj_chkM_of rfl mj_k203
  | 4, h => cases h; exact mj_chkM_of rfl mj_k204
  | 5, h => cases h; exact mj_chkM_of rfl mj_k205
  | 6, h => cases h; exact mj_chkM_of rfl mj_k206
  | 7, h => cases h; exact mj_chkM_of rfl mj_k207
  | 8, h => cases h; exact mj_chkM_of rfl mj_k208
  | 9, h => cases h; exact mj_chkM_of rfl mj_k209
  | 10, h => cases h; exact mj_chkM_of rfl mj_k210
  | 11, h => cases h; exact mj_chkM_of rfl mj_k211
  | 12, h => cases h; exact mj_chkM_of rfl mj_k212
  | 13, h => cases h; exact mj_chkM_of rfl mj_k213
  | 14, h => cases h; exact mj_chkM_of rfl mj_k214
  | 15, h => cases h; exact mj_chkM_of rfl mj_k215
  | 16, h => cases h; exact mj_chkM_of rfl mj_k216
  | 17, h => cases h; exact mj_chkM_of rfl mj_k217
  | 18, h => cases h; exact mj_chkM_of rfl mj_k218
  | 19, h => cases h; exact mj_chkM_of rfl mj_k219
  | 20, h => cases h; exact mj_chkM_of rfl mj_k220
  | 21, h => cases h; exact mj_chkM_of rfl mj_k221
  | 22, h => cases h; exact mj_chkM_of rfl mj_k222
  | 23, h => cases h; exact mj_chkM_of rfl mj_k223
  | 24, h => cases h; exact mj_chkM_of rfl mj_k224
  | 25, h => cases h; exact mj_chkM_of rfl mj_k225
  | 26, h => cases h; exact mj_chkM_of rfl mj_k226
  | 27, h => cases h; exact mj_chkM_of rfl mj_k227
  | 28, h => cases h; exact mj_chkM_of rfl mj_k228
  | 29, h => cases h; exact mj_chkM_of rfl mj_k229
  | 30, h => cases h; exact mj_chkM_of rfl mj_k230
  | 31, h => cases h; exact mj_chkM_of rfl mj_k231
  | 32, h => cases h; exact mj_chkM_of rfl mj_k232
  | 33, h => cases h; exact mj_chkM_of rfl mj_k233
  | 34, h => cases h; exact mj_chkM_of rfl mj_k234
  | 35, h => cases h; exact mj_chkM_of rfl mj_k235
  | 36, h => cases h; exact mj_chkM_of rfl mj_k236
  | 37, h => cases h; exact mj_chkM_of rfl mj_k237
  | 38, h => cases h; exact mj_chkM_of rfl mj_k238
  | 39, h => cases h; exact mj_chkM_of rfl mj_k239
  | 40, h => cases h; exact mj_chkM_of rfl mj_k240
  | 41, h => cases h; exact mj_chkM_of rfl mj_k241
  | 42, h => cases h; exact mj_chkM_of rfl mj_k242
  | 43, h => cases h; exact mj_chkM_of rfl mj_k243
  | 44, h => cases h; exact mj_chkM_of rfl mj_k244
  | 45, h => cases h; exact mj_chkM_of rfl mj_k245
  | 46, h => cases h; exact mj_chkM_of rfl mj_k246
  | 47, h => cases h; exact mj_chkM_of rfl mj_k247
  | 48, h => cases h; exact mj_chkM_of rfl mj_k248
  | 49, h => cases h; exact mj_chkM_of rfl mj_k249
  | j + 50, h => simp [mj_P_4] at h
end
section
theorem mj_k250 : mj_chkM mj_m250 mj_l250 = true := by decide +kernel
theorem mj_k251 : mj_chkM mj_m251 mj_l251 = true := by decide +kernel
theorem mj_k252 : mj_chkM mj_m252 mj_l252 = true := by decide +kernel
theorem mj_k253 : mj_chkM mj_m253 mj_l253 = true := by decide +kernel
theorem mj_k254 : mj_chkM mj_m254 mj_l254 = true := by decide +kernel
theorem mj_k255 : mj_chkM mj_m255 mj_l255 = true := by decide +kernel
theorem mj_k256 : mj_chkM mj_m256 mj_l256 = true := by decide +kernel
theorem mj_k257 : mj_chkM mj_m257 mj_l257 = true := by decide +kernel
theorem mj_k258 : mj_chkM mj_m258 mj_l258 = true := by decide +kernel
theorem mj_k259 : mj_chkM mj_m259 mj_l259 = true := by decide +kernel
theorem mj_k260 : mj_chkM mj_m260 mj_l260 = true := by decide +kernel
theorem mj_k261 : mj_chkM mj_m261 mj_l261 = true := by decide +kernel
theorem mj_k262 : mj_chkM mj_m262 mj_l262 = true := by decide +kernel
theorem mj_k263 : mj_chkM mj_m263 mj_l263 = true := by decide +kernel
theorem mj_k264 : mj_chkM mj_m264 mj_l264 = true := by decide +kernel
theorem mj_k265 : mj_chkM mj_m265 mj_l265 = true := by decide +kernel
theorem mj_k266 : mj_chkM mj_m266 mj_l266 = true := by decide +kernel
theorem mj_k267 : mj_chkM mj_m267 mj_l267 = true := by decide +kernel
theorem mj_k268 : mj_chkM mj_m268 mj_l268 = true := by decide +kernel
theorem mj_k269 : mj_chkM mj_m269 mj_l269 = true := by decide +kernel
theorem mj_k270 : mj_chkM mj_m270 mj_l270 = true := by decide +kernel
theorem mj_k271 : mj_chkM mj_m271 mj_l271 = true := by decide +kernel
theorem mj_k272 : mj_chkM mj_m272 mj_l272 = true := by decide +kernel
theorem mj_k273 : mj_chkM mj_m273 mj_l273 = true := by decide +kernel
theorem mj_k274 : mj_chkM mj_m274 mj_l274 = true := by decide +kernel
theorem mj_k275 : mj_chkM mj_m275 mj_l275 = true := by decide +kernel
theorem mj_k276 : mj_chkM mj_m276 mj_l276 = true := by decide +kernel
theorem mj_k277 : mj_chkM mj_m277 mj_l277 = true := by decide +kernel
theorem mj_k278 : mj_chkM mj_m278 mj_l278 = true := by decide +kernel
theorem mj_k279 : mj_chkM mj_m279 mj_l279 = true := by decide +kernel
theorem mj_k280 : mj_chkM mj_m280 mj_l280 = true := by decide +kernel
theorem mj_k281 : mj_chkM mj_m281 mj_l281 = true := by decide +kernel
theorem mj_k282 : mj_chkM mj_m282 mj_l282 = true := by decide +kernel
theorem mj_k283 : mj_chkM mj_m283 mj_l283 = true := by decide +kernel
theorem mj_k284 : mj_chkM mj_m284 mj_l284 = true := by decide +kernel
theorem mj_k285 : mj_chkM mj_m285 mj_l285 = true := by decide +kernel
theorem mj_k286 : mj_chkM mj_m286 mj_l286 = true := by decide +kernel
theorem mj_k287 : mj_chkM mj_m287 mj_l287 = true := by decide +kernel
theorem mj_k288 : mj_chkM mj_m288 mj_l288 = true := by decide +kernel
theorem mj_k289 : mj_chkM mj_m289 mj_l289 = true := by decide +kernel
theorem mj_k290 : mj_chkM mj_m290 mj_l290 = true := by decide +kernel
theorem mj_k291 : mj_chkM mj_m291 mj_l291 = true := by decide +kernel
theorem mj_k292 : mj_chkM mj_m292 mj_l292 = true := by decide +kernel
theorem mj_k293 : mj_chkM mj_m293 mj_l293 = true := by decide +kernel
theorem mj_k294 : mj_chkM mj_m294 mj_l294 = true := by decide +kernel
theorem mj_k295 : mj_chkM mj_m295 mj_l295 = true := by decide +kernel
theorem mj_k296 : mj_chkM mj_m296 mj_l296 = true := by decide +kernel
theorem mj_k297 : mj_chkM mj_m297 mj_l297 = true := by decide +kernel
theorem mj_k298 : mj_chkM mj_m298 mj_l298 = true := by decide +kernel
theorem mj_k299 : mj_chkM mj_m299 mj_l299 = true := by decide +kernel
theorem mj_K_5 : ∀ (j : Nat) (M : mj_M), mj_P_5[j]? = some M → mj_okA mj_P mj_Thr M := by
  intro j M h
  match j, h with
  | 0, h => cases h; exact mj_chkM_of rfl mj_k250
  | 1, h => cases h; exact mj_chkM_of rfl mj_k251
  | 2, h => cases h; exact mj_chkM_of rfl mj_k252
  | 3, h => cases h; exact mj_chkM_of rfl mj_k253
  | 4, h => cases h; exact mj_chkM_of rfl mj_k254
  | 5, h => cases h; exact mj_chkM_of rfl mj_k255
  | 6, h => cases h; exact mj_chkM_of rfl mj_k256
  | 7, h => cases h; exact mj_chkM_of rfl mj_k257
  | 8, h => cases h; exact mj_chkM_of rfl mj_k258
  | 9, h => cases h; exact mj_chkM_of rfl mj_k259
  | 10, h => cases h; exact mj_chkM_of rfl mj_k260
  | 11, h => cases h; exact mj_chkM_of rfl mj_k261
  | 12, h => cases h; exact mj_chkM_of rfl mj_k262
  | 13, h => cases h; exact mj_chkM_of rfl mj_k263
  | 14, h => cases h; exact mj_chkM_of rfl mj_k264
  | 15, h => cases h; exact mj_chkM_of rfl mj_k265
  | 16, h => cases h; exact mj_chkM_of rfl mj_k266
  | 17, h => cases h; exact mj_chkM_of rfl mj_k267
  | 18, h => cases h; exact mj_chkM_of rfl mj_k268
  | 19, h => cases h; exact mj_chkM_of rfl mj_k269
  | 20, h => cases h; exact mj_chkM_of rfl mj_k270
  | 21, h => cases h; exact mj_chkM_of rfl mj_k271
  | 22, h => cases h; exact mj_chkM_of rfl mj_k272
  | 23, h => cases h; exact mj_chkM_of rfl mj_k273
  | 24, h => cases h; exact mj_chkM_of rfl mj_k274
  | 25, h => cases h; exact mj_chkM_of rfl mj_k275
  | 26, h => cases h; exact mj_chkM_of rfl mj_k276
  | 27, h => cases h; exact mj_chkM_of rfl mj_k277
  | 28, h => cases h; exact mj_chkM_of rfl mj_k278
  | 29, h => cases h; exact mj_chkM_of rfl mj_k279
  | 30, h => cases h; exact mj_chkM_of rfl mj_k280
  | 31, h => cases h; exact mj_chkM_of rfl mj_k281
  | 32, h => cases h; exact mj_chkM_of rfl mj_k282
  | 33, h => cases h; exact mj_chkM_of rfl mj_k283
  | 34, h => cases h; exact mj_chkM_of rfl mj_k284
  | 35, h => cases h; exact mj_chkM_of rfl mj_k285
  | 36, h => cases h; exact mj_chkM_of rfl mj_k286
  | 37, h => cases h; exact mj_chkM_of rfl mj_k287
  | 38, h => cases h; exact mj_chkM_of rfl mj_k288
  | 39, h => cases h; exact mj_chkM_of rfl mj_k289
  | 40, h => cases h; exact mj_chkM_of rfl mj_k290
  | 41, h => cases h; exact mj_chkM_of rfl mj_k291
  | 42, h => cases h; exact mj_chkM_of rfl mj_k292
  | 43, h => cases h; exact mj_chkM_of rfl mj_k293
  | 44, h => cases h; exact mj_chkM_of rfl mj_k294
  | 45, h => cases h; exact mj_chkM_of rfl mj_k295
  | 46, h => cases h; exact mj_chkM_of rfl mj_k296
  | 47, h => cases h; exact mj_chkM_of rfl mj_k297
  | 48, h => cases h; exact mj_chkM_of rfl mj_k298
  | 49, h => cases h; exact mj_chkM_of rfl mj_k299
  | j + 50, h => simp [mj_P_5] at h
end
section
theorem mj_k300 : mj_chkM mj_m300 mj_l300 = true := by decide +kernel
theorem mj_k301 : mj_chkM mj_m301 mj_l301 = true := by decide +kernel
theorem mj_k302 : mj_chkM mj_m302 mj_l302 = true := by decide +kernel
theorem mj_k303 : mj_chkM mj_m303 mj_l303 = true := by decide +kernel
theorem mj_k304 : mj_chkM mj_m304 mj_l304 = true := by decide +kernel
theorem mj_k305 : mj_chkM mj_m305 mj_l305 = true := by decide +kernel
theorem mj_k306 : mj_chkM mj_m306 mj_l306 = true := by decide +kernel
theorem mj_k307 : mj_chkM mj_m307 mj_l307 = true := by decide +kernel
theorem mj_k308 : mj_chkM mj_m308 mj_l308 = true := by decide +kernel
theorem mj_k309 : mj_chkM mj_m309 mj_l309 = true := by decide +kernel
theorem mj_k310 : mj_chkM mj_m310 mj_l310 = true := by decide +kernel
theorem mj_k311 : mj_chkM mj_m311 mj_l311 = true := by decide +kernel
theorem mj_k312 : mj_chkM mj_m312 mj_l312 = true := by decide +kernel
theorem mj_k313 : mj_chkM mj_m313 mj_l313 = true := by decide +kernel
theorem mj_k314 : mj_chkM mj_m314 mj_l314 = true := by decide +kernel
theorem mj_k315 : mj_chkM mj_m315 mj_l315 = true := by decide +kernel
theorem mj_k316 : mj_chkM mj_m316 mj_l316 = true := by decide +kernel
theorem mj_k317 : mj_chkM mj_m317 mj_l317 = true := by decide +kernel
theorem mj_k318 : mj_chkM mj_m318 mj_l318 = true := by decide +kernel
theorem mj_k319 : mj_chkM mj_m319 mj_l319 = true := by decide +kernel
theorem mj_k320 : mj_chkM mj_m320 mj_l320 = true := by decide +kernel
theorem mj_k321 : mj_chkM mj_m321 mj_l321 = true := by decide +kernel
theorem mj_k322 : mj_chkM mj_m322 mj_l322 = true := by decide +kernel
theorem mj_k323 : mj_chkM mj_m323 mj_l323 = true := by decide +kernel
theorem mj_k324 : mj_chkM mj_m324 mj_l324 = true := by decide +kernel
theorem mj_k325 : mj_chkM mj_m325 mj_l325 = true := by decide +kernel
theorem mj_k326 : mj_chkM mj_m326 mj_l326 = true := by decide +kernel
theorem mj_k327 : mj_chkM mj_m327 mj_l327 = true := by decide +kernel
theorem mj_k328 : mj_chkM mj_m328 mj_l328 = true := by decide +kernel
theorem mj_k329 : mj_chkM mj_m329 mj_l329 = true := by decide +kernel
theorem mj_k330 : mj_chkM mj_m330 mj_l330 = true := by decide +kernel
theorem mj_k331 : mj_chkM mj_m331 mj_l331 = true := by decide +kernel
theorem mj_k332 : mj_chkM mj_m332 mj_l332 = true := by decide +kernel
theorem mj_k333 : mj_chkM mj_m333 mj_l333 = true := by decide +kernel
theorem mj_k334 : mj_chkM mj_m334 mj_l334 = true := by decide +kernel
theorem mj_k335 : mj_chkM mj_m335 mj_l335 = true := by decide +kernel
theorem mj_k336 : mj_chkM mj_m336 mj_l336 = true := by decide +kernel
theorem mj_k337 : mj_chkM mj_m337 mj_l337 = true := by decide +kernel
theorem mj_k338 : mj_chkM mj_m338 mj_l338 = true := by decide +kernel
theorem mj_k339 : mj_chkM mj_m339 mj_l339 = true := by decide +kernel
theorem mj_k340 : mj_chkM mj_m340 mj_l340 = true := by decide +kernel
theorem mj_k341 : mj_chkM mj_m341 mj_l341 = true := by decide +kernel
theorem mj_k342 : mj_chkM mj_m342 mj_l342 = true := by decide +kernel
theorem mj_k343 : mj_chkM mj_m343 mj_l343 = true := by decide +kernel
theorem mj_k344 : mj_chkM mj_m344 mj_l344 = true := by decide +kernel
theorem mj_k345 : mj_chkM mj_m345 mj_l345 = true := by decide +kernel
theorem mj_k346 : mj_chkM mj_m346 mj_l346 = true := by decide +kernel
theorem mj_K_6 : ∀ (j : Nat) (M : mj_M), mj_P_6[j]? = some M → mj_okA mj_P mj_Thr M := by
  intro j M h
  match j, h with
  | 0, h => cases h; exact mj_chkM_of rfl mj_k300
  | 1, h => cases h; exact mj_chkM_of rfl mj_k301
  | 2, h => cases h; exact mj_chkM_of rfl mj_k302
  | 3, h => cases h; exact mj_chkM_of rfl mj_k303
  | 4, h => cases h; exact mj_chkM_of rfl mj_k304
  | 5, h => cases h; exact mj_chkM_of rfl mj_k305
  | 6, h => cases h; exact mj_chkM_of rfl mj_k306
  | 7, h => cases h; exact mj_chkM_of rfl mj_k307
  | 8, h => cases h; exact mj_chkM_of rfl mj_k308
  | 9, h => cases h; exact mj_chkM_of rfl mj_k309
  | 10, h => cases h; exact mj_chkM_of rfl mj_k310
  | 11, h => cases h; exact mj_chkM_of rfl mj_k311
  | 12, h => cases h; exact mj_chkM_of rfl mj_k312
  | 13, h => cases h; exact mj_chkM_of rfl mj_k313
  | 14, h => cases h; exact mj_chkM_of rfl mj_k314
  | 15, h => cases h; exact mj_chkM_of rfl mj_k315
  | 16, h => cases h; exact mj_chkM_of rfl mj_k316
  | 17, h => cases h; exact mj_chkM_of rfl mj_k317
  | 18, h => cases h; exact mj_chkM_of rfl mj_k318
  | 19, h => cases h; exact mj_chkM_of rfl mj_k319
  | 20, h => cases h; exact mj_chkM_of rfl mj_k320
  | 21, h => cases h; exact mj_chkM_of rfl mj_k321
  | 22, h => cases h; exact mj_chkM_of rfl mj_k322
  | 23, h => cases h; exact mj_chkM_of rfl mj_k323
  | 24, h => cases h; exact mj_chkM_of rfl mj_k324
  | 25, h => cases h; exact mj_chkM_of rfl mj_k325
  | 26, h => cases h; exact mj_chkM_of rfl mj_k326
  | 27, h => cases h; exact mj_chkM_of rfl mj_k327
  | 28, h => cases h; exact mj_chkM_of rfl mj_k328
  | 29, h => cases h; exact mj_chkM_of rfl mj_k329
  | 30, h => cases h; exact mj_chkM_of rfl mj_k330
  | 31, h => cases h; exact mj_chkM_of rfl mj_k331
  | 32, h => cases h; exact mj_chkM_of rfl mj_k332
  | 33, h => cases h; exact mj_chkM_of rfl mj_k333
  | 34, h => cases h; exact mj_chkM_of rfl mj_k334
  | 35, h => cases h; exact mj_chkM_of rfl mj_k335
  | 36, h => cases h; exact mj_chkM_of rfl mj_k336
  | 37, h => cases h; exact mj_chkM_of rfl mj_k337
  | 38, h => cases h; exact mj_chkM_of rfl mj_k338
  | 39, h => cases h; exact mj_chkM_of rfl mj_k339
  | 40, h => cases h; exact mj_chkM_of rfl mj_k340
  | 41, h => cases h; exact mj_chkM_of rfl mj_k341
  | 42, h => cases h; exact mj_chkM_of rfl mj_k342
  | 43, h => cases h; exact mj_chkM_of rfl mj_k343
  | 44, h => cases h; exact mj_chkM_of rfl mj_k344
  | 45, h => cases h; exact mj_chkM_of rfl mj_k345
  | 46, h => cases h; exact mj_chkM_of rfl mj_k346
  | j + 47, h => simp [mj_P_6] at h
end
section
theorem mj_K_app {a b : List mj_M} (ha : ∀ (j : Nat) (M : mj_M), a[j]? = some M → mj_okA mj_P mj_Thr M) (hb : ∀ (j : Nat) (M : mj_M), b[j]? = some M → mj_okA mj_P mj_Thr M) : ∀ (j : Nat) (M : mj_M), (a ++ b)[j]? = some M → mj_okA mj_P mj_Thr M := by
  intro j M h
  by_cases hj : j < a.length
  · rw [List.getElem?_append_left hj] at h
    exact ha j M h
  · rw [List.getElem?_append_right (by omega)] at h
    exact hb _ M h
theorem mj_thr_ok : (mj_Thr.all fun q => mj_thr q.1 q.2.1 q.2.2) = true := by decide +kernel
theorem mj_all : mj_okP2 mj_P mj_Thr := by
  refine ⟨fun q hq => List.all_eq_true.mp mj_thr_ok q hq, ?_⟩
  exact mj_K_app mj_K_0 (mj_K_app mj_K_1 (mj_K_app mj_K_2 (mj_K_app mj_K_3 (mj_K_app mj_K_4 (mj_K_app mj_K_5 (mj_K_6))))))
theorem mj_chk_app {P : List mj_M} {thr : List (String × Nat × Nat)} {y : MethodName} {cc : ByteArray} : ∀ {a b : List (Option mj_I)} {o : Nat} (n : Nat), a.length = n → mj_chk P thr y cc o a = true → mj_chk P thr y cc (o + n) b = true → mj_chk P thr y cc o (a ++ b) = true
  | [], b, o, n, hn, _, h => by subst hn; exact h
  | none :: t, b, o, n, hn, h1, h => by
    subst hn
    exact mj_chk_app (a := t) (o := o + 1) t.length rfl h1 (by rw [show o + 1 + t.length = o + (none :: t).length by simp; omega]; exact h)
  | some J :: t, b, o, n, hn, h1, h => by
    subst hn
    simp only [mj_chk, Bool.and_eq_true] at h1
    show (mj_okX P thr y cc o J && mj_chk P thr y cc (o + 1) (t ++ b)) = true
    rw [h1.1, Bool.true_and]
    exact mj_chk_app (a := t) (o := o + 1) t.length rfl h1.2 (by rw [show o + 1 + t.length = o + (some J :: t).length by simp; omega]; exact h)
theorem mj_kL_0 : mj_chk mj_P mj_Thr mj_mL.1 mj_mL.2.1 0 mj_lL_0 = true := by decide +kernel
theorem mj_kL_1 : mj_chk mj_P mj_Thr mj_mL.1 mj_mL.2.1 120 mj_lL_1 = true := by decide +kernel
theorem mj_kL_2 : mj_chk mj_P mj_Thr mj_mL.1 mj_mL.2.1 240 mj_lL_2 = true := by decide +kernel
theorem mj_kL_3 : mj_chk mj_P mj_Thr mj_mL.1 mj_mL.2.1 360 mj_lL_3 = true := by decide +kernel
theorem mj_kL_4 : mj_chk mj_P mj_Thr mj_mL.1 mj_mL.2.1 480 mj_lL_4 = true := by decide +kernel
theorem mj_kL_5 : mj_chk mj_P mj_Thr mj_mL.1 mj_mL.2.1 600 mj_lL_5 = true := by decide +kernel
theorem mj_kL_6 : mj_chk mj_P mj_Thr mj_mL.1 mj_mL.2.1 720 mj_lL_6 = true := by decide +kernel
theorem mj_kL_7 : mj_chk mj_P mj_Thr mj_mL.1 mj_mL.2.1 840 mj_lL_7 = true := by decide +kernel
theorem mj_kL_8 : mj_chk mj_P mj_Thr mj_mL.1 mj_mL.2.1 960 mj_lL_8 = true := by decide +kernel
theorem mj_kL_9 : mj_chk mj_P mj_Thr mj_mL.1 mj_mL.2.1 1080 mj_lL_9 = true := by decide +kernel
theorem mj_kL_10 : mj_chk mj_P mj_Thr mj_mL.1 mj_mL.2.1 1200 mj_lL_10 = true := by decide +kernel
theorem mj_kL_11 : mj_chk mj_P mj_Thr mj_mL.1 mj_mL.2.1 1320 mj_lL_11 = true := by decide +kernel
theorem mj_kL_12 : mj_chk mj_P mj_Thr mj_mL.1 mj_mL.2.1 1440 mj_lL_12 = true := by decide +kernel
theorem mj_kL_13 : mj_chk mj_P mj_Thr mj_mL.1 mj_mL.2.1 1560 mj_lL_13 = true := by decide +kernel
theorem mj_kL_14 : mj_chk mj_P mj_Thr mj_mL.1 mj_mL.2.1 1680 mj_lL_14 = true := by decide +kernel
theorem mj_kL_15 : mj_chk mj_P mj_Thr mj_mL.1 mj_mL.2.1 1800 mj_lL_15 = true := by decide +kernel
theorem mj_kL_16 : mj_chk mj_P mj_Thr mj_mL.1 mj_mL.2.1 1920 mj_lL_16 = true := by decide +kernel
theorem mj_kL_17 : mj_chk mj_P mj_Thr mj_mL.1 mj_mL.2.1 2040 mj_lL_17 = true := by decide +kernel
theorem mj_kL_18 : mj_chk mj_P mj_Thr mj_mL.1 mj_mL.2.1 2160 mj_lL_18 = true := by decide +kernel
theorem mj_kL_19 : mj_chk mj_P mj_Thr mj_mL.1 mj_mL.2.1 2280 mj_lL_19 = true := by decide +kernel
theorem mj_kL_20 : mj_chk mj_P mj_Thr mj_mL.1 mj_mL.2.1 2400 mj_lL_20 = true := by decide +kernel
theorem mj_kL_21 : mj_chk mj_P mj_Thr mj_mL.1 mj_mL.2.1 2520 mj_lL_21 = true := by decide +kernel
theorem mj_kL_22 : mj_chk mj_P mj_Thr mj_mL.1 mj_mL.2.1 2640 mj_lL_22 = true := by decide +kernel
theorem mj_kL_23 : mj_chk mj_P mj_Thr mj_mL.1 mj_mL.2.1 2760 mj_lL_23 = true := by decide +kernel
theorem mj_kL_24 : mj_chk mj_P mj_Thr mj_mL.1 mj_mL.2.1 2880 mj_lL_24 = true := by decide +kernel
theorem mj_kL_25 : mj_chk mj_P mj_Thr mj_mL.1 mj_mL.2.1 3000 mj_lL_25 = true := by decide +kernel
theorem mj_kL_26 : mj_chk mj_P mj_Thr mj_mL.1 mj_mL.2.1 3120 mj_lL_26 = true := by decide +kernel
theorem mj_kL : mj_chk mj_P mj_Thr mj_mL.1 mj_mL.2.1 0 mj_lL = true :=
  mj_chk_app 120 (by decide) mj_kL_0 (mj_chk_app 120 (by decide) mj_kL_1 (mj_chk_app 120 (by decide) mj_kL_2 (mj_chk_app 120 (by decide) mj_kL_3 (mj_chk_app 120 (by decide) mj_kL_4 (mj_chk_app 120 (by decide) mj_kL_5 (mj_chk_app 120 (by decide) mj_kL_6 (mj_chk_app 120 (by decide) mj_kL_7 (mj_chk_app 120 (by decide) mj_kL_8 (mj_chk_app 120 (by decide) mj_kL_9 (mj_chk_app 120 (by decide) mj_kL_10 (mj_chk_app 120 (by decide) mj_kL_11 (mj_chk_app 120 (by decide) mj_kL_12 (mj_chk_app 120 (by decide) mj_kL_13 (mj_chk_app 120 (by decide) mj_kL_14 (mj_chk_app 120 (by decide) mj_kL_15 (mj_chk_app 120 (by decide) mj_kL_16 (mj_chk_app 120 (by decide) mj_kL_17 (mj_chk_app 120 (by decide) mj_kL_18 (mj_chk_app 120 (by decide) mj_kL_19 (mj_chk_app 120 (by decide) mj_kL_20 (mj_chk_app 120 (by decide) mj_kL_21 (mj_chk_app 120 (by decide) mj_kL_22 (mj_chk_app 120 (by decide) mj_kL_23 (mj_chk_app 120 (by decide) mj_kL_24 (mj_chk_app 120 (by decide) mj_kL_25 (mj_kL_26))))))))))))))))))))))))))
end
section
/-! THE CLAIM OUT OF ONE WALK OF THE LAW'S BODY. Your part is whole_start (and what it stands on); all else here is the same for every law, but numbers. -/
def R_law : String := "PolyRegistersLaw"
def lw_P (b : Addr) (xs : List Int32) (args : Array Value) (s : State) : Prop := args = #[.ref b] ∧ s.IntsAt b xs ∧ xs.length ≤ 6 ∧ (Jvm.Cond.and given_1 narrow_1).before args s = true
/-- what a walk over the start with the record d0 says of its end, said of the start itself -/
theorem lw_closed {s t : State} {o : Outcome} {d0 : Drawn} {L : List Loc} {k n : Nat} (hd0 : s.drawn.sameBut d0 lw_cs) (hv : ∃ v, o = .returned v) (hW : (s.setDrawn d0).WarmedH t.vm) (hs : (s.setDrawn d0).sameButNew ({ t with vm := s.vm } : State) L k n) : State.butDraws s t lw_cs (fun t1 => Framed s o t1 L k n) := by
  have h2 : t.drawn = d0 := congrArg State.drawn hs.1
  refine ⟨⟨hv, hW, State.sameButNew.setDrawn hs s.drawn⟩, ?_, by decide⟩
  rw [h2]
  exact hd0
def lw_Q (_ : Array Value) (s : State) (o : Outcome) (t : State) : Prop := o = .returned (some (.int 1)) ∧ State.butDraws s t lw_cs (fun t1 => Framed s o t1 [] 600006 7302056)
def lw_Z (below : List Frame) (a : Array Value) (s : State) : State → Prop := fun t => ∃ o, t.status = .running ∧ Ended t below o ∧ lw_Q a s o t
/-- the law's own end, with 1 on the stack, nothing written that was there before, its room as the claim has it; d0: the record of draws at this point (at the entry s.drawn: begin with 'refine W.base ?_' and 'have hd0 := Drawn.sameBut.refl s.drawn lw_cs') -/
theorem lw_ret {p : Program} {l : Launch} {e : Env} {s : State} {m : MethodId} {below : List Frame} {meth : Method} {c : Code} {b : Nat} {d0 : Drawn} (hd0 : s.drawn.sameBut d0 lw_cs) (hx : p.tables.exec = Jvm.exec) (hb : c.code = code) (hr : meth.sig.returnType = ret) (hlocks : meth.locks = false) {pc : Nat} {H : Heap} {ls : Array Slot} (hdg : decode code pc = .ok (.ireturn, 1)) : W p l e room_1 (s.setDrawn d0) m #[Value.ref b] below meth c H [] 600006 7302056 (lw_Z below #[Value.ref b] s) (F0 m pc ls [.int 1]) := by
  intro T hT X
  obtain ⟨fs, hret, hrun, hended, hW, hframe⟩ := X.leave (v := some (.int 1)) (hlocks := hlocks) (fun h => by rw [hr] at h; cases h)
  have hmeth' : T.vm.method? m = some meth := X.method'
  refine ⟨T.setFrames fs, ?_, .returned (some (.int 1)), hrun, hended, rfl, lw_closed hd0 ⟨_, rfl⟩ hW hframe⟩
  jvm_step X.here [X.here.top, hx, hb, hdg, hmeth', hr, ret, narrow_b1]
  (try refine ⟨rfl, ?_⟩); (try refine ⟨rfl, ?_⟩)
  first | (intro acts; rw [hret _ acts rfl rfl rfl]) | rw [hret _ _ rfl rfl rfl]
  exact Steps.refl _
/-- what holds at the law's entry: the machine, the code, the tables' words (any of lw_tbl by 'hts w (by decide +kernel)'), the script of L ints xs at the cell b, what the Statement gives of the start (any of its parts by flat_of_before) -/
def lw_At (p : Program) (s : State) (m : MethodId) (meth : Method) (c : Code) (b L : Nat) (xs : Nat → Int32) : Prop :=
  p.tables.exec = Jvm.exec ∧ c.code = code ∧ meth.sig.returnType = ret ∧ c.maxLocals = 9 ∧ s.vm.findClass R_law = some m.cls ∧ (∀ w ∈ lw_tbl, w.before #[Value.ref b] s = true) ∧ va_X b L xs s s.heap ∧ b < s.heap.size ∧ meth.locks = false ∧ (Jvm.Cond.and given_1 narrow_1).before #[Value.ref b] s = true
/-! The law's own run on the machine, out of a run of the small machine. -/
def mj_h0 (L : Nat) (xs : Nat → Int32) : mj_H := [.inl (100, L, fun j => .int (xs j))]
theorem mj_small {p : Program} {l : Launch} {e : Env} {R R' : Room} {s : State} {m : MethodId} {args : Array Value} {below : List Frame} {meth : Method} {c : Code} {T : State} (X : Stand p l e R s m args below meth c T [] 0 0) (hf : R'.frames ≤ R.frames) (hl : R'.locals ≤ R.locals) (hc : R'.cells ≤ R.cells) (hs : R'.slots ≤ R.slots) : Stand p l e R' s m args below meth c T [] 0 0 := by
  refine ⟨X.admits, X.cas, X.clock, X.frames, ?_, X.hears, X.method, X.code, X.here, X.tail, X.warmed, X.limits, X.bytes, ?_⟩
  · have h := X.room
    simp only [State.hasRoom, Bool.and_eq_true, decide_eq_true_eq] at h ⊢
    obtain ⟨⟨⟨⟨h1, h2, h3, h4, h5, h6⟩, h7⟩, h8⟩, h9⟩ := h
    exact ⟨⟨⟨⟨by omega, by omega, by omega, by omega, by omega, h6⟩, by omega⟩, by omega⟩, h9⟩
  · exact X.same
theorem mj_arrC {args : Array Value} {s : State} {t : FieldType} (h : (Jvm.Cond.arrayClass t).before args s = true) : ∃ c : ClassId, ArrOfT s c t ∧ s.vm.findClass ("[" ++ t.toString) = some c := by
  obtain ⟨c, k, comp, h1, h2, h3⟩ := Cond.arrayClass_spec h
  exact ⟨c, fun n z => ⟨fun k h => (by cases h), k, h2, comp, h3⟩, h1⟩
theorem mj_arrO {args : Array Value} {s : State} {C : String} (h : (Jvm.Cond.arrayOver (.object C)).before args s = true) : ∃ c : ClassId, ArrOfT s c (.object C) ∧ va_RA s c (.object C) := by
  obtain ⟨comp, c, k, h1, h2, h3, h4, h5⟩ := Cond.arrayOver_spec h
  exact ⟨c, fun n z => ⟨fun k h => (by cases h), k, h3, comp, h4⟩, k, comp, h3, h4, h1, h5⟩
theorem mj_arrA {args : Array Value} {s : State} {t : FieldType} (h : (Jvm.Cond.arrayOver (.array t)).before args s = true) : ∃ c : ClassId, ArrOfT s c (.array t) ∧ va_RA s c (.array t) := by
  obtain ⟨comp, c, k, h1, h2, h3, h4, h5⟩ := mj_overA h
  exact ⟨c, fun n z => ⟨fun k h => (by cases h), k, h3, comp, h4⟩, h5⟩
theorem mj_known {args : Array Value} {s : State} (hts : ∀ w ∈ lw_tbl, w.before args s = true) : ∃ (D : va_G) (dA : Nat → ClassId), va_K D mj_cl (mj_tys dA) s := by
  have h1 : ∀ k : Nat, ∃ d : ClassId × (Nat → Nat), ∀ q : vw_C, mj_cl[k]? = some q → u_Kn s q.1 q.2.1 q.2.2 d.1 d.2 := by
    intro k
    cases hk : mj_cl[k]? with
    | none => exact ⟨(0, fun _ => 0), fun q h => by cases h⟩
    | some q =>
      have hc := mj_cls hk
      obtain ⟨cC, iS, hKn⟩ := u_known (C := q.1) (T := q.2.1) (N := q.2.2) (n := q.2.2) hts (fun w hw => (hc.1 w hw).1) (hts _ hc.2.2.2.1.1)
      exact ⟨(cC, iS), fun q' h => by cases h; exact hKn⟩
  obtain ⟨f, hf⟩ := Classical.axiomOfChoice h1
  obtain ⟨a0, b0, e0⟩ := mj_arrC (t := .int) (hts _ (by decide +kernel : Jvm.Cond.arrayClass .int ∈ lw_tbl))
  obtain ⟨a1, b1, e1⟩ := mj_arrC (t := .long) (hts _ (by decide +kernel : Jvm.Cond.arrayClass .long ∈ lw_tbl))
  obtain ⟨a2, b2, e2⟩ := mj_arrC (t := .byte) (hts _ (by decide +kernel : Jvm.Cond.arrayClass .byte ∈ lw_tbl))
  obtain ⟨a3, b3, e3⟩ := mj_arrO (C := "PolyRegisters$Bench") (hts _ (by decide +kernel : Jvm.Cond.arrayOver (.object "PolyRegisters$Bench") ∈ lw_tbl))
  obtain ⟨a4, b4, e4⟩ := mj_arrO (C := "PolyRegisters$Poly") (hts _ (by decide +kernel : Jvm.Cond.arrayOver (.object "PolyRegisters$Poly") ∈ lw_tbl))
  obtain ⟨a5, b5, e5⟩ := mj_arrO (C := "PolyRegisters$Wide") (hts _ (by decide +kernel : Jvm.Cond.arrayOver (.object "PolyRegisters$Wide") ∈ lw_tbl))
  obtain ⟨a6, b6, e6⟩ := mj_arrA (t := .long) (hts _ (by decide +kernel : Jvm.Cond.arrayOver (.array .long) ∈ lw_tbl))
  refine ⟨(fun k => (f k).1, fun k => (f k).2), fun t => match t with | 0 => a0 | 1 => a1 | 2 => a2 | 3 => a3 | 4 => a4 | 5 => a5 | _ => a6, fun k q h => hf k q h, fun k q h => ?_⟩
  match k, h with
  | 0, h => cases h; exact ⟨b0, e0⟩
  | 1, h => cases h; exact ⟨b1, e1⟩
  | 2, h => cases h; exact ⟨b2, e2⟩
  | 3, h => cases h; exact ⟨b3, e3⟩
  | 4, h => cases h; exact ⟨b4, e4⟩
  | 5, h => cases h; exact ⟨b5, e5⟩
  | 6, h => cases h; exact ⟨b6, e6⟩
  | k + 7, h => simp at h
theorem mj_ncs : ((List.range 5).all fun i => (List.range 5).all fun j => decide (i = j) || decide (Jvm.Cond.not (.castable (mj_exc i) (mj_exc j)) ∈ flatC (Jvm.Cond.and given_1 narrow_1))) = true := by decide +kernel
theorem mj_start {p : Program} {e : Env} {s : State} {m : MethodId} {below : List Frame} {meth : Method} {c : Code} (l : Launch) (hflags : l.flags = flags0) {b L : Nat} {xs : Nat → Int32} (C0 : lw_At p s m meth c b L xs) (hht : ∀ x ∈ c.exceptionTable.toList, False)
    {Fu d F : Nat} {h' : mj_H} (hrun : mj_loop (mj_run mj_P Fu d) mj_mL F 0 (mj_loc0 9 [.ref 0]) [] (mj_h0 L xs) = some (.inl (some (.int 1)), h')) (hd : d ≤ 100) (hc : h'.length ≤ 1 + 600006) (hs : mj_sl h' ≤ L + 7302056) :
    W p l e room_1 s m #[Value.ref b] below meth c s.heap [] 0 0 (lw_Z below #[Value.ref b] s) (entryFrame m ([Value.ref b] : List Value).toArray 9) := by
  obtain ⟨hx, hb, hr, hml, hown, hts, hX, hbl, hlocks, hgv⟩ := id C0
  have hlf : l.stackTraces = false := by unfold Launch.stackTraces; rw [hflags]; decide +kernel
  obtain ⟨D, dA, hK⟩ := mj_known hts
  have hg := flat_of_before _ hgv
  have hZ1 := vx_Zqof (s := s) (args := #[Value.ref b]) (C := Bundle.tN) (n := "UNASSIGNED_STACK") (d := Bundle.steD) (A := fun q => s.heap.size ≤ q) (hts _ (by decide +kernel)) (hts _ (by decide +kernel)) (hg _ (by decide +kernel)) (fun a h1 h2 => Nat.lt_irrefl _ (Nat.lt_of_lt_of_le h1 h2))
  have hZ2 := vx_Zqof (s := s) (args := #[Value.ref b]) (C := Bundle.tN) (n := "SUPPRESSED_SENTINEL") (d := Bundle.listD) (A := fun q => s.heap.size ≤ q) (hts _ (by decide +kernel)) (hts _ (by decide +kernel)) (hg _ (by decide +kernel)) (fun a h1 h2 => Nat.lt_irrefl _ (Nat.lt_of_lt_of_le h1 h2))
  have hNc : ∀ i j, i < 5 → j < 5 → i ≠ j → va_Nc (mj_exc i) (mj_exc j) s := by
    intro i j hi hj hij
    have h1 := List.all_eq_true.mp (List.all_eq_true.mp mj_ncs i (List.mem_range.mpr hi)) j (List.mem_range.mpr hj)
    simp only [Bool.or_eq_true, decide_eq_true_eq] at h1
    rcases h1 with h1 | h1
    · exact absurd h1 hij
    · exact va_Nc.of (args := #[Value.ref b]) (hg _ h1)
  have hR : mj_HR s.heap.size b D dA s (mj_h0 L xs) s.heap := by
    refine ⟨rfl, ⟨L, fun j => .int (xs j), rfl⟩, fun k e he => ?_⟩
    match k, he with
    | 0, he =>
      cases he
      exact ⟨fun _ => hX, fun h => absurd rfl h⟩
    | k + 1, he => cases he
  have hI : mj_Inv s.heap.size b D dA (mj_h0 L xs) s := ⟨hR, fun w hw hm => mj_move hm (State.WarmedH.refl s) (hts w hw), hK, Nat.le_refl _, hbl, hZ1, hZ2, hNc⟩
  have hC : mj_Ctx p s m #[Value.ref b] meth c mj_mL.1 mj_mL.2.1 mj_mL.2.2.1 s.heap.size b D dA := ⟨hx, hb, hml, hown, fun w hw hm => hts w hw, hK, Nat.le_refl _, hbl, hlocks, fun h => absurd h (by decide)⟩
  have htab : c.exceptionTable.toList = tableOf (mj_four mj_mL.2.2.2.2.2.1) := by
    cases hct : c.exceptionTable.toList with
    | nil => rfl
    | cons x t => exact absurd (by rw [hct]; exact List.mem_cons_self) (hht x)
  have hmono := mj_loop_mono (mj_run_mono mj_P Fu d) hrun
  have hl0 : (mj_h0 L xs).length = 1 := rfl
  have hs0 : mj_sl (mj_h0 L xs) = L := rfl
  rw [hl0, hs0] at hmono
  have hm1 : 1 ≤ h'.length := hmono.1
  have hm2 : L ≤ mj_sl h' := hmono.2
  have hloc : (mj_loc0 9 [.ref 0]).length = 9 := by decide
  have hw := mj_walk (e := e) (below := below) mj_all hlf (Fu := Fu) (d := d) (mj_sound mj_all hlf Fu d) (M := mj_mL) rfl (fun pc I hI => by
    have := mj_chk_of mj_kL pc I (mj_look_of hI)
    rw [Nat.zero_add] at this
    exact this) hC hI hr htab (mc := h'.length - 1) (ms := mj_sl h' - L) F 0 _ [] _ _ s.heap _ [] 0 0 hrun ⟨hR, mj_entry (B := s.heap.size) (b := b) hloc, va_S.rf, rfl, rfl⟩ (by rw [hl0]; show 1 + (h'.length - 1) = h'.length; omega) (by rw [hs0]; show L + (mj_sl h' - L) = mj_sl h'; omega)
  intro T hT X
  have hroom1 : room_1.frames = 2048 := rfl
  have hroom2 : room_1.cells = 600006 := rfl
  have hroom3 : room_1.slots = 7302056 := rfl
  have hroom4 : room_1.locals = 94400 := rfl
  have X' := mj_small (R' := mj_rm (d + 1) (h'.length - 1) (mj_sl h' - L)) X (by rw [hroom1]; show d + 1 + 8 ≤ _; omega) (by rw [hroom4]; show 140 + (d + 1) * 64 ≤ _; omega) (by rw [hroom2]; show h'.length - 1 ≤ _; omega) (by rw [hroom3]; show mj_sl h' - L ≤ _; omega)
  rw [lg_entry_eq]
  obtain ⟨t, h1, o, h2, h3, h4⟩ := hw T hT X'
  refine ⟨t, h1, o, h2, h3, ?_⟩
  rcases h4 with ⟨⟨v, hv, ho, -, -⟩, Lc, ⟨hret, hwm, hsm⟩, hfree⟩ | ⟨q, -, E, ce, Lc, ⟨i, hi, -⟩, -⟩
  · cases hv
    refine ⟨ho, lw_closed (d0 := s.drawn) (Drawn.sameBut.refl s.drawn lw_cs) hret hwm ?_⟩
    exact (State.sameButNew.drop_fresh (L := []) (J := Lc) hsm hfree).mono (by omega) (by omega)
  · cases hi
end
