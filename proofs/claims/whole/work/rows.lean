section
/-- a private method of a class that the tables say can be made, by its rows of tables_1 -/
def lw_okq (q : MethodName × Nat) : Prop := (q.1.cls ≠ "java/lang/invoke/MethodHandle" ∧ q.1.cls ≠ "java/lang/invoke/VarHandle") ∧ Cond.instantiable q.1.cls q.2 ∈ tables_1 ∧ Cond.privateMethod q.1 ∈ tables_1 ∧ Cond.instanceMethod q.1 ∈ tables_1
theorem lw_p0 : lw_okq (⟨"BathBoats$Flow", "contribute", "(III)V"⟩, 3) := ⟨⟨by decide +kernel, by decide +kernel⟩, List.mem_of_getElem? (i := 203) (by decide +kernel), List.mem_of_getElem? (i := 414) (by decide +kernel), List.mem_of_getElem? (i := 415) (by decide +kernel)⟩
theorem lw_p1 : lw_okq (⟨"BathBoats$Physics", "changeLevel", "(LBathBoats$Bath;)V"⟩, 2) := ⟨⟨by decide +kernel, by decide +kernel⟩, List.mem_of_getElem? (i := 197) (by decide +kernel), List.mem_of_getElem? (i := 483) (by decide +kernel), List.mem_of_getElem? (i := 484) (by decide +kernel)⟩
theorem lw_p2 : lw_okq (⟨"BathBoats$Physics", "driftOn", "(LBathBoats$Bath;I)V"⟩, 2) := ⟨⟨by decide +kernel, by decide +kernel⟩, List.mem_of_getElem? (i := 197) (by decide +kernel), List.mem_of_getElem? (i := 492) (by decide +kernel), List.mem_of_getElem? (i := 493) (by decide +kernel)⟩
theorem lw_p3 : lw_okq (⟨"BathBoats$Physics", "moveOn", "(LBathBoats$Bath;II)V"⟩, 2) := ⟨⟨by decide +kernel, by decide +kernel⟩, List.mem_of_getElem? (i := 197) (by decide +kernel), List.mem_of_getElem? (i := 516) (by decide +kernel), List.mem_of_getElem? (i := 517) (by decide +kernel)⟩
theorem lw_p4 : lw_okq (⟨"BathBoats$Physics", "collide", "(LBathBoats$Bath;III)V"⟩, 2) := ⟨⟨by decide +kernel, by decide +kernel⟩, List.mem_of_getElem? (i := 197) (by decide +kernel), List.mem_of_getElem? (i := 521) (by decide +kernel), List.mem_of_getElem? (i := 522) (by decide +kernel)⟩
theorem lw_p5 : lw_okq (⟨"BathBoats$Physics", "soak", "(LBathBoats$Bath;I)V"⟩, 2) := ⟨⟨by decide +kernel, by decide +kernel⟩, List.mem_of_getElem? (i := 197) (by decide +kernel), List.mem_of_getElem? (i := 532) (by decide +kernel), List.mem_of_getElem? (i := 533) (by decide +kernel)⟩
theorem lw_p6 : lw_okq (⟨"BathBoats$Physics", "spreadSoap", "(LBathBoats$Bath;)V"⟩, 2) := ⟨⟨by decide +kernel, by decide +kernel⟩, List.mem_of_getElem? (i := 197) (by decide +kernel), List.mem_of_getElem? (i := 554) (by decide +kernel), List.mem_of_getElem? (i := 555) (by decide +kernel)⟩
theorem lw_p7 : lw_okq (⟨"BathBoats$Physics", "give", "(II)V"⟩, 2) := ⟨⟨by decide +kernel, by decide +kernel⟩, List.mem_of_getElem? (i := 197) (by decide +kernel), List.mem_of_getElem? (i := 559) (by decide +kernel), List.mem_of_getElem? (i := 560) (by decide +kernel)⟩
theorem lw_p8 : lw_okq (⟨"BathBoats", "passTurns", "(LBathBoats$Bath;I)V"⟩, 13) := ⟨⟨by decide +kernel, by decide +kernel⟩, List.mem_of_getElem? (i := 26) (by decide +kernel), List.mem_of_getElem? (i := 576) (by decide +kernel), List.mem_of_getElem? (i := 577) (by decide +kernel)⟩
theorem lw_p9 : lw_okq (⟨"BathBoats$History", "slot", "(I)LBathBoats$Bath;"⟩, 3) := ⟨⟨by decide +kernel, by decide +kernel⟩, List.mem_of_getElem? (i := 177) (by decide +kernel), List.mem_of_getElem? (i := 593) (by decide +kernel), List.mem_of_getElem? (i := 594) (by decide +kernel)⟩
theorem lw_p10 : lw_okq (⟨"java/lang/Throwable", "fillInStackTrace", "(I)Ljava/lang/Throwable;"⟩, 6) := ⟨⟨by decide +kernel, by decide +kernel⟩, List.mem_of_getElem? (i := 658) (by decide +kernel), List.mem_of_getElem? (i := 656) (by decide +kernel), List.mem_of_getElem? (i := 657) (by decide +kernel)⟩
theorem lw_p11 : lw_okq (⟨"BathBoats$BathReader", "readHead", "()V"⟩, 2) := ⟨⟨by decide +kernel, by decide +kernel⟩, List.mem_of_getElem? (i := 294) (by decide +kernel), List.mem_of_getElem? (i := 706) (by decide +kernel), List.mem_of_getElem? (i := 707) (by decide +kernel)⟩
theorem lw_p12 : lw_okq (⟨"BathBoats$BathReader", "readWind", "()I"⟩, 2) := ⟨⟨by decide +kernel, by decide +kernel⟩, List.mem_of_getElem? (i := 294) (by decide +kernel), List.mem_of_getElem? (i := 784) (by decide +kernel), List.mem_of_getElem? (i := 785) (by decide +kernel)⟩
theorem lw_p13 : lw_okq (⟨"BathBoats$BathReader", "readDrain", "()V"⟩, 2) := ⟨⟨by decide +kernel, by decide +kernel⟩, List.mem_of_getElem? (i := 294) (by decide +kernel), List.mem_of_getElem? (i := 806) (by decide +kernel), List.mem_of_getElem? (i := 807) (by decide +kernel)⟩
theorem lw_p14 : lw_okq (⟨"BathBoats$BathReader", "readKeyword", "(II)V"⟩, 2) := ⟨⟨by decide +kernel, by decide +kernel⟩, List.mem_of_getElem? (i := 294) (by decide +kernel), List.mem_of_getElem? (i := 810) (by decide +kernel), List.mem_of_getElem? (i := 811) (by decide +kernel)⟩
theorem lw_p15 : lw_okq (⟨"BathBoats$BathReader", "readRowForSource", "(I)I"⟩, 2) := ⟨⟨by decide +kernel, by decide +kernel⟩, List.mem_of_getElem? (i := 294) (by decide +kernel), List.mem_of_getElem? (i := 815) (by decide +kernel), List.mem_of_getElem? (i := 816) (by decide +kernel)⟩
def lw_privs_1 : List (MethodName × Nat) := [(⟨"BathBoats$Flow", "contribute", "(III)V"⟩, 3), (⟨"BathBoats$Physics", "changeLevel", "(LBathBoats$Bath;)V"⟩, 2), (⟨"BathBoats$Physics", "driftOn", "(LBathBoats$Bath;I)V"⟩, 2), (⟨"BathBoats$Physics", "moveOn", "(LBathBoats$Bath;II)V"⟩, 2), (⟨"BathBoats$Physics", "collide", "(LBathBoats$Bath;III)V"⟩, 2), (⟨"BathBoats$Physics", "soak", "(LBathBoats$Bath;I)V"⟩, 2), (⟨"BathBoats$Physics", "spreadSoap", "(LBathBoats$Bath;)V"⟩, 2), (⟨"BathBoats$Physics", "give", "(II)V"⟩, 2), (⟨"BathBoats", "passTurns", "(LBathBoats$Bath;I)V"⟩, 13), (⟨"BathBoats$History", "slot", "(I)LBathBoats$Bath;"⟩, 3), (⟨"java/lang/Throwable", "fillInStackTrace", "(I)Ljava/lang/Throwable;"⟩, 6), (⟨"BathBoats$BathReader", "readHead", "()V"⟩, 2), (⟨"BathBoats$BathReader", "readWind", "()I"⟩, 2), (⟨"BathBoats$BathReader", "readDrain", "()V"⟩, 2), (⟨"BathBoats$BathReader", "readKeyword", "(II)V"⟩, 2), (⟨"BathBoats$BathReader", "readRowForSource", "(I)I"⟩, 2)]
theorem lw_r1 : ∀ q ∈ lw_privs_1, lw_okq q := List.forall_mem_cons.mpr ⟨lw_p0, List.forall_mem_cons.mpr ⟨lw_p1, List.forall_mem_cons.mpr ⟨lw_p2, List.forall_mem_cons.mpr ⟨lw_p3, List.forall_mem_cons.mpr ⟨lw_p4, List.forall_mem_cons.mpr ⟨lw_p5, List.forall_mem_cons.mpr ⟨lw_p6, List.forall_mem_cons.mpr ⟨lw_p7, List.forall_mem_cons.mpr ⟨lw_p8, List.forall_mem_cons.mpr ⟨lw_p9, List.forall_mem_cons.mpr ⟨lw_p10, List.forall_mem_cons.mpr ⟨lw_p11, List.forall_mem_cons.mpr ⟨lw_p12, List.forall_mem_cons.mpr ⟨lw_p13, List.forall_mem_cons.mpr ⟨lw_p14, List.forall_mem_cons.mpr ⟨lw_p15, fun _ h => absurd h List.not_mem_nil⟩⟩⟩⟩⟩⟩⟩⟩⟩⟩⟩⟩⟩⟩⟩⟩
theorem lw_p16 : lw_okq (⟨"BathBoats$BathReader", "readRowEnd", "(Z)V"⟩, 2) := ⟨⟨by decide +kernel, by decide +kernel⟩, List.mem_of_getElem? (i := 294) (by decide +kernel), List.mem_of_getElem? (i := 826) (by decide +kernel), List.mem_of_getElem? (i := 827) (by decide +kernel)⟩
theorem lw_p17 : lw_okq (⟨"BathBoats$BathReader", "readTap", "()V"⟩, 2) := ⟨⟨by decide +kernel, by decide +kernel⟩, List.mem_of_getElem? (i := 294) (by decide +kernel), List.mem_of_getElem? (i := 835) (by decide +kernel), List.mem_of_getElem? (i := 836) (by decide +kernel)⟩
theorem lw_p18 : lw_okq (⟨"BathBoats$BathReader", "readBoat", "()V"⟩, 2) := ⟨⟨by decide +kernel, by decide +kernel⟩, List.mem_of_getElem? (i := 294) (by decide +kernel), List.mem_of_getElem? (i := 844) (by decide +kernel), List.mem_of_getElem? (i := 845) (by decide +kernel)⟩
theorem lw_p19 : lw_okq (⟨"BathBoats$BathReader", "readSoap", "()V"⟩, 2) := ⟨⟨by decide +kernel, by decide +kernel⟩, List.mem_of_getElem? (i := 294) (by decide +kernel), List.mem_of_getElem? (i := 856) (by decide +kernel), List.mem_of_getElem? (i := 857) (by decide +kernel)⟩
theorem lw_p20 : lw_okq (⟨"BathBoats", "requireBoat", "(I)V"⟩, 13) := ⟨⟨by decide +kernel, by decide +kernel⟩, List.mem_of_getElem? (i := 26) (by decide +kernel), List.mem_of_getElem? (i := 901) (by decide +kernel), List.mem_of_getElem? (i := 902) (by decide +kernel)⟩
theorem lw_p21 : lw_okq (⟨"BathBoats", "requireCell", "(II)V"⟩, 13) := ⟨⟨by decide +kernel, by decide +kernel⟩, List.mem_of_getElem? (i := 26) (by decide +kernel), List.mem_of_getElem? (i := 932) (by decide +kernel), List.mem_of_getElem? (i := 933) (by decide +kernel)⟩
theorem lw_p22 : lw_okq (⟨"BathBoats$Flow", "reachMore", "(LBathBoats$Bath;)I"⟩, 3) := ⟨⟨by decide +kernel, by decide +kernel⟩, List.mem_of_getElem? (i := 203) (by decide +kernel), List.mem_of_getElem? (i := 999) (by decide +kernel), List.mem_of_getElem? (i := 1000) (by decide +kernel)⟩
theorem lw_p23 : lw_okq (⟨"BathBoats$Flow", "isBesideReached", "(LBathBoats$Bath;II)Z"⟩, 3) := ⟨⟨by decide +kernel, by decide +kernel⟩, List.mem_of_getElem? (i := 203) (by decide +kernel), List.mem_of_getElem? (i := 1004) (by decide +kernel), List.mem_of_getElem? (i := 1005) (by decide +kernel)⟩
theorem lw_p24 : lw_okq (⟨"BathBoats$Towing", "shorten", "(LBathBoats$Bath;)Z"⟩, 2) := ⟨⟨by decide +kernel, by decide +kernel⟩, List.mem_of_getElem? (i := 235) (by decide +kernel), List.mem_of_getElem? (i := 1043) (by decide +kernel), List.mem_of_getElem? (i := 1044) (by decide +kernel)⟩
theorem lw_p25 : lw_okq (⟨"BathBoats$Towing", "nearer", "(II)I"⟩, 2) := ⟨⟨by decide +kernel, by decide +kernel⟩, List.mem_of_getElem? (i := 235) (by decide +kernel), List.mem_of_getElem? (i := 1054) (by decide +kernel), List.mem_of_getElem? (i := 1055) (by decide +kernel)⟩
theorem lw_p26 : lw_okq (⟨"BathBoats$Towing", "through", "(I)I"⟩, 2) := ⟨⟨by decide +kernel, by decide +kernel⟩, List.mem_of_getElem? (i := 235) (by decide +kernel), List.mem_of_getElem? (i := 1058) (by decide +kernel), List.mem_of_getElem? (i := 1059) (by decide +kernel)⟩
theorem lw_p27 : lw_okq (⟨"BathBoats", "lifeInTrial", "(I)I"⟩, 13) := ⟨⟨by decide +kernel, by decide +kernel⟩, List.mem_of_getElem? (i := 26) (by decide +kernel), List.mem_of_getElem? (i := 1102) (by decide +kernel), List.mem_of_getElem? (i := 1103) (by decide +kernel)⟩
theorem lw_p28 : lw_okq (⟨"BathBoats", "letterOf", "(I)I"⟩, 13) := ⟨⟨by decide +kernel, by decide +kernel⟩, List.mem_of_getElem? (i := 26) (by decide +kernel), List.mem_of_getElem? (i := 1229) (by decide +kernel), List.mem_of_getElem? (i := 1230) (by decide +kernel)⟩
theorem lw_p29 : lw_okq (⟨"BathBoats$QueryReader", "readTest", "(I)I"⟩, 2) := ⟨⟨by decide +kernel, by decide +kernel⟩, List.mem_of_getElem? (i := 310) (by decide +kernel), List.mem_of_getElem? (i := 1252) (by decide +kernel), List.mem_of_getElem? (i := 1253) (by decide +kernel)⟩
theorem lw_p30 : lw_okq (⟨"BathBoats$QueryReader", "readFactor", "(I)I"⟩, 2) := ⟨⟨by decide +kernel, by decide +kernel⟩, List.mem_of_getElem? (i := 310) (by decide +kernel), List.mem_of_getElem? (i := 1256) (by decide +kernel), List.mem_of_getElem? (i := 1257) (by decide +kernel)⟩
theorem lw_p31 : lw_okq (⟨"BathBoats$QueryReader", "takeOperand", "()I"⟩, 2) := ⟨⟨by decide +kernel, by decide +kernel⟩, List.mem_of_getElem? (i := 310) (by decide +kernel), List.mem_of_getElem? (i := 1263) (by decide +kernel), List.mem_of_getElem? (i := 1264) (by decide +kernel)⟩
def lw_privs_2 : List (MethodName × Nat) := [(⟨"BathBoats$BathReader", "readRowEnd", "(Z)V"⟩, 2), (⟨"BathBoats$BathReader", "readTap", "()V"⟩, 2), (⟨"BathBoats$BathReader", "readBoat", "()V"⟩, 2), (⟨"BathBoats$BathReader", "readSoap", "()V"⟩, 2), (⟨"BathBoats", "requireBoat", "(I)V"⟩, 13), (⟨"BathBoats", "requireCell", "(II)V"⟩, 13), (⟨"BathBoats$Flow", "reachMore", "(LBathBoats$Bath;)I"⟩, 3), (⟨"BathBoats$Flow", "isBesideReached", "(LBathBoats$Bath;II)Z"⟩, 3), (⟨"BathBoats$Towing", "shorten", "(LBathBoats$Bath;)Z"⟩, 2), (⟨"BathBoats$Towing", "nearer", "(II)I"⟩, 2), (⟨"BathBoats$Towing", "through", "(I)I"⟩, 2), (⟨"BathBoats", "lifeInTrial", "(I)I"⟩, 13), (⟨"BathBoats", "letterOf", "(I)I"⟩, 13), (⟨"BathBoats$QueryReader", "readTest", "(I)I"⟩, 2), (⟨"BathBoats$QueryReader", "readFactor", "(I)I"⟩, 2), (⟨"BathBoats$QueryReader", "takeOperand", "()I"⟩, 2)]
theorem lw_r2 : ∀ q ∈ lw_privs_2, lw_okq q := List.forall_mem_cons.mpr ⟨lw_p16, List.forall_mem_cons.mpr ⟨lw_p17, List.forall_mem_cons.mpr ⟨lw_p18, List.forall_mem_cons.mpr ⟨lw_p19, List.forall_mem_cons.mpr ⟨lw_p20, List.forall_mem_cons.mpr ⟨lw_p21, List.forall_mem_cons.mpr ⟨lw_p22, List.forall_mem_cons.mpr ⟨lw_p23, List.forall_mem_cons.mpr ⟨lw_p24, List.forall_mem_cons.mpr ⟨lw_p25, List.forall_mem_cons.mpr ⟨lw_p26, List.forall_mem_cons.mpr ⟨lw_p27, List.forall_mem_cons.mpr ⟨lw_p28, List.forall_mem_cons.mpr ⟨lw_p29, List.forall_mem_cons.mpr ⟨lw_p30, List.forall_mem_cons.mpr ⟨lw_p31, fun _ h => absurd h List.not_mem_nil⟩⟩⟩⟩⟩⟩⟩⟩⟩⟩⟩⟩⟩⟩⟩⟩
theorem lw_p32 : lw_okq (⟨"BathBoats$QueryReader", "takeComparison", "()I"⟩, 2) := ⟨⟨by decide +kernel, by decide +kernel⟩, List.mem_of_getElem? (i := 310) (by decide +kernel), List.mem_of_getElem? (i := 1278) (by decide +kernel), List.mem_of_getElem? (i := 1279) (by decide +kernel)⟩
theorem lw_p33 : lw_okq (⟨"BathBoats$QueryReader", "compare", "(III)I"⟩, 2) := ⟨⟨by decide +kernel, by decide +kernel⟩, List.mem_of_getElem? (i := 310) (by decide +kernel), List.mem_of_getElem? (i := 1282) (by decide +kernel), List.mem_of_getElem? (i := 1283) (by decide +kernel)⟩
theorem lw_p34 : lw_okq (⟨"BathBoats$QueryReader", "operandOf", "(II)I"⟩, 2) := ⟨⟨by decide +kernel, by decide +kernel⟩, List.mem_of_getElem? (i := 310) (by decide +kernel), List.mem_of_getElem? (i := 1286) (by decide +kernel), List.mem_of_getElem? (i := 1287) (by decide +kernel)⟩
theorem lw_p35 : lw_okq (⟨"BathBoats$QueryReader", "firstOf", "(I)I"⟩, 2) := ⟨⟨by decide +kernel, by decide +kernel⟩, List.mem_of_getElem? (i := 310) (by decide +kernel), List.mem_of_getElem? (i := 1303) (by decide +kernel), List.mem_of_getElem? (i := 1304) (by decide +kernel)⟩
theorem lw_p36 : lw_okq (⟨"BathBoatsModel", "begin", "(II)V"⟩, 28) := ⟨⟨by decide +kernel, by decide +kernel⟩, List.mem_of_getElem? (i := 1308) (by decide +kernel), List.mem_of_getElem? (i := 1326) (by decide +kernel), List.mem_of_getElem? (i := 1327) (by decide +kernel)⟩
theorem lw_p37 : lw_okq (⟨"BathBoatsModel", "count", "(I)I"⟩, 28) := ⟨⟨by decide +kernel, by decide +kernel⟩, List.mem_of_getElem? (i := 1308) (by decide +kernel), List.mem_of_getElem? (i := 1423) (by decide +kernel), List.mem_of_getElem? (i := 1424) (by decide +kernel)⟩
theorem lw_p38 : lw_okq (⟨"BathBoatsModel", "of", "(II)I"⟩, 28) := ⟨⟨by decide +kernel, by decide +kernel⟩, List.mem_of_getElem? (i := 1308) (by decide +kernel), List.mem_of_getElem? (i := 1427) (by decide +kernel), List.mem_of_getElem? (i := 1428) (by decide +kernel)⟩
theorem lw_p39 : lw_okq (⟨"BathBoatsModel", "working", "()I"⟩, 28) := ⟨⟨by decide +kernel, by decide +kernel⟩, List.mem_of_getElem? (i := 1308) (by decide +kernel), List.mem_of_getElem? (i := 1431) (by decide +kernel), List.mem_of_getElem? (i := 1432) (by decide +kernel)⟩
theorem lw_p40 : lw_okq (⟨"BathBoatsModel", "works", "(I)Z"⟩, 28) := ⟨⟨by decide +kernel, by decide +kernel⟩, List.mem_of_getElem? (i := 1308) (by decide +kernel), List.mem_of_getElem? (i := 1435) (by decide +kernel), List.mem_of_getElem? (i := 1436) (by decide +kernel)⟩
theorem lw_p41 : lw_okq (⟨"BathBoatsModel", "ofDrain", "(II)I"⟩, 28) := ⟨⟨by decide +kernel, by decide +kernel⟩, List.mem_of_getElem? (i := 1308) (by decide +kernel), List.mem_of_getElem? (i := 1439) (by decide +kernel), List.mem_of_getElem? (i := 1440) (by decide +kernel)⟩
theorem lw_p42 : lw_okq (⟨"BathBoatsModel", "otherIn", "(II)I"⟩, 28) := ⟨⟨by decide +kernel, by decide +kernel⟩, List.mem_of_getElem? (i := 1308) (by decide +kernel), List.mem_of_getElem? (i := 1443) (by decide +kernel), List.mem_of_getElem? (i := 1444) (by decide +kernel)⟩
theorem lw_p43 : lw_okq (⟨"BathBoatsModel", "isAfloat", "(I)Z"⟩, 28) := ⟨⟨by decide +kernel, by decide +kernel⟩, List.mem_of_getElem? (i := 1308) (by decide +kernel), List.mem_of_getElem? (i := 1447) (by decide +kernel), List.mem_of_getElem? (i := 1448) (by decide +kernel)⟩
theorem lw_p44 : lw_okq (⟨"BathBoatsModel", "soapSum", "()I"⟩, 28) := ⟨⟨by decide +kernel, by decide +kernel⟩, List.mem_of_getElem? (i := 1308) (by decide +kernel), List.mem_of_getElem? (i := 1451) (by decide +kernel), List.mem_of_getElem? (i := 1452) (by decide +kernel)⟩
theorem lw_p45 : lw_okq (⟨"BathBoatsModel", "cells", "()I"⟩, 28) := ⟨⟨by decide +kernel, by decide +kernel⟩, List.mem_of_getElem? (i := 1308) (by decide +kernel), List.mem_of_getElem? (i := 1455) (by decide +kernel), List.mem_of_getElem? (i := 1456) (by decide +kernel)⟩
theorem lw_p46 : lw_okq (⟨"BathBoatsModel", "raise", "(I)I"⟩, 28) := ⟨⟨by decide +kernel, by decide +kernel⟩, List.mem_of_getElem? (i := 1308) (by decide +kernel), List.mem_of_getElem? (i := 1459) (by decide +kernel), List.mem_of_getElem? (i := 1460) (by decide +kernel)⟩
theorem lw_p47 : lw_okq (⟨"BathBoatsModel", "isBoat", "(I)Z"⟩, 28) := ⟨⟨by decide +kernel, by decide +kernel⟩, List.mem_of_getElem? (i := 1308) (by decide +kernel), List.mem_of_getElem? (i := 1467) (by decide +kernel), List.mem_of_getElem? (i := 1468) (by decide +kernel)⟩
def lw_privs_3 : List (MethodName × Nat) := [(⟨"BathBoats$QueryReader", "takeComparison", "()I"⟩, 2), (⟨"BathBoats$QueryReader", "compare", "(III)I"⟩, 2), (⟨"BathBoats$QueryReader", "operandOf", "(II)I"⟩, 2), (⟨"BathBoats$QueryReader", "firstOf", "(I)I"⟩, 2), (⟨"BathBoatsModel", "begin", "(II)V"⟩, 28), (⟨"BathBoatsModel", "count", "(I)I"⟩, 28), (⟨"BathBoatsModel", "of", "(II)I"⟩, 28), (⟨"BathBoatsModel", "working", "()I"⟩, 28), (⟨"BathBoatsModel", "works", "(I)Z"⟩, 28), (⟨"BathBoatsModel", "ofDrain", "(II)I"⟩, 28), (⟨"BathBoatsModel", "otherIn", "(II)I"⟩, 28), (⟨"BathBoatsModel", "isAfloat", "(I)Z"⟩, 28), (⟨"BathBoatsModel", "soapSum", "()I"⟩, 28), (⟨"BathBoatsModel", "cells", "()I"⟩, 28), (⟨"BathBoatsModel", "raise", "(I)I"⟩, 28), (⟨"BathBoatsModel", "isBoat", "(I)Z"⟩, 28)]
theorem lw_r3 : ∀ q ∈ lw_privs_3, lw_okq q := List.forall_mem_cons.mpr ⟨lw_p32, List.forall_mem_cons.mpr ⟨lw_p33, List.forall_mem_cons.mpr ⟨lw_p34, List.forall_mem_cons.mpr ⟨lw_p35, List.forall_mem_cons.mpr ⟨lw_p36, List.forall_mem_cons.mpr ⟨lw_p37, List.forall_mem_cons.mpr ⟨lw_p38, List.forall_mem_cons.mpr ⟨lw_p39, List.forall_mem_cons.mpr ⟨lw_p40, List.forall_mem_cons.mpr ⟨lw_p41, List.forall_mem_cons.mpr ⟨lw_p42, List.forall_mem_cons.mpr ⟨lw_p43, List.forall_mem_cons.mpr ⟨lw_p44, List.forall_mem_cons.mpr ⟨lw_p45, List.forall_mem_cons.mpr ⟨lw_p46, List.forall_mem_cons.mpr ⟨lw_p47, fun _ h => absurd h List.not_mem_nil⟩⟩⟩⟩⟩⟩⟩⟩⟩⟩⟩⟩⟩⟩⟩⟩
theorem lw_p48 : lw_okq (⟨"BathBoatsModel", "lacks", "(Z)Z"⟩, 28) := ⟨⟨by decide +kernel, by decide +kernel⟩, List.mem_of_getElem? (i := 1308) (by decide +kernel), List.mem_of_getElem? (i := 1474) (by decide +kernel), List.mem_of_getElem? (i := 1475) (by decide +kernel)⟩
theorem lw_p49 : lw_okq (⟨"BathBoatsModel", "number", "(II)I"⟩, 28) := ⟨⟨by decide +kernel, by decide +kernel⟩, List.mem_of_getElem? (i := 1308) (by decide +kernel), List.mem_of_getElem? (i := 1478) (by decide +kernel), List.mem_of_getElem? (i := 1479) (by decide +kernel)⟩
theorem lw_p50 : lw_okq (⟨"BathBoatsModel", "column", "(I)I"⟩, 28) := ⟨⟨by decide +kernel, by decide +kernel⟩, List.mem_of_getElem? (i := 1308) (by decide +kernel), List.mem_of_getElem? (i := 1482) (by decide +kernel), List.mem_of_getElem? (i := 1483) (by decide +kernel)⟩
theorem lw_p51 : lw_okq (⟨"BathBoatsModel", "line", "(I)I"⟩, 28) := ⟨⟨by decide +kernel, by decide +kernel⟩, List.mem_of_getElem? (i := 1308) (by decide +kernel), List.mem_of_getElem? (i := 1486) (by decide +kernel), List.mem_of_getElem? (i := 1487) (by decide +kernel)⟩
theorem lw_p52 : lw_okq (⟨"BathBoatsModel", "isDrain", "(I)Z"⟩, 28) := ⟨⟨by decide +kernel, by decide +kernel⟩, List.mem_of_getElem? (i := 1308) (by decide +kernel), List.mem_of_getElem? (i := 1494) (by decide +kernel), List.mem_of_getElem? (i := 1495) (by decide +kernel)⟩
theorem lw_p53 : lw_okq (⟨"BathBoatsModel", "isTap", "(I)Z"⟩, 28) := ⟨⟨by decide +kernel, by decide +kernel⟩, List.mem_of_getElem? (i := 1308) (by decide +kernel), List.mem_of_getElem? (i := 1502) (by decide +kernel), List.mem_of_getElem? (i := 1503) (by decide +kernel)⟩
theorem lw_p54 : lw_okq (⟨"BathBoatsModel", "ofTap", "(II)I"⟩, 28) := ⟨⟨by decide +kernel, by decide +kernel⟩, List.mem_of_getElem? (i := 1308) (by decide +kernel), List.mem_of_getElem? (i := 1506) (by decide +kernel), List.mem_of_getElem? (i := 1507) (by decide +kernel)⟩
theorem lw_p55 : lw_okq (⟨"BathBoatsModel", "isCell", "(II)Z"⟩, 28) := ⟨⟨by decide +kernel, by decide +kernel⟩, List.mem_of_getElem? (i := 1308) (by decide +kernel), List.mem_of_getElem? (i := 1514) (by decide +kernel), List.mem_of_getElem? (i := 1515) (by decide +kernel)⟩
theorem lw_p56 : lw_okq (⟨"BathBoatsModel", "cellAt", "(II)I"⟩, 28) := ⟨⟨by decide +kernel, by decide +kernel⟩, List.mem_of_getElem? (i := 1308) (by decide +kernel), List.mem_of_getElem? (i := 1518) (by decide +kernel), List.mem_of_getElem? (i := 1519) (by decide +kernel)⟩
theorem lw_p57 : lw_okq (⟨"BathBoatsModel", "endedAhead", "(I)I"⟩, 28) := ⟨⟨by decide +kernel, by decide +kernel⟩, List.mem_of_getElem? (i := 1308) (by decide +kernel), List.mem_of_getElem? (i := 1534) (by decide +kernel), List.mem_of_getElem? (i := 1535) (by decide +kernel)⟩
theorem lw_p58 : lw_okq (⟨"BathBoatsModel", "flowIn", "(II)F"⟩, 28) := ⟨⟨by decide +kernel, by decide +kernel⟩, List.mem_of_getElem? (i := 1308) (by decide +kernel), List.mem_of_getElem? (i := 1542) (by decide +kernel), List.mem_of_getElem? (i := 1543) (by decide +kernel)⟩
theorem lw_p59 : lw_okq (⟨"BathBoatsModel", "share", "(IIII)F"⟩, 28) := ⟨⟨by decide +kernel, by decide +kernel⟩, List.mem_of_getElem? (i := 1308) (by decide +kernel), List.mem_of_getElem? (i := 1546) (by decide +kernel), List.mem_of_getElem? (i := 1547) (by decide +kernel)⟩
theorem lw_p60 : lw_okq (⟨"BathBoatsModel", "growth", "(II)I"⟩, 28) := ⟨⟨by decide +kernel, by decide +kernel⟩, List.mem_of_getElem? (i := 1308) (by decide +kernel), List.mem_of_getElem? (i := 1557) (by decide +kernel), List.mem_of_getElem? (i := 1558) (by decide +kernel)⟩
theorem lw_p61 : lw_okq (⟨"BathBoatsModel", "soapIn", "(II)I"⟩, 28) := ⟨⟨by decide +kernel, by decide +kernel⟩, List.mem_of_getElem? (i := 1308) (by decide +kernel), List.mem_of_getElem? (i := 1561) (by decide +kernel), List.mem_of_getElem? (i := 1562) (by decide +kernel)⟩
theorem lw_p62 : lw_okq (⟨"BathBoatsModel", "force", "(I)F"⟩, 28) := ⟨⟨by decide +kernel, by decide +kernel⟩, List.mem_of_getElem? (i := 1308) (by decide +kernel), List.mem_of_getElem? (i := 1569) (by decide +kernel), List.mem_of_getElem? (i := 1570) (by decide +kernel)⟩
theorem lw_p63 : lw_okq (⟨"BathBoatsModel", "touches", "(I)Z"⟩, 28) := ⟨⟨by decide +kernel, by decide +kernel⟩, List.mem_of_getElem? (i := 1308) (by decide +kernel), List.mem_of_getElem? (i := 1577) (by decide +kernel), List.mem_of_getElem? (i := 1578) (by decide +kernel)⟩
def lw_privs_4 : List (MethodName × Nat) := [(⟨"BathBoatsModel", "lacks", "(Z)Z"⟩, 28), (⟨"BathBoatsModel", "number", "(II)I"⟩, 28), (⟨"BathBoatsModel", "column", "(I)I"⟩, 28), (⟨"BathBoatsModel", "line", "(I)I"⟩, 28), (⟨"BathBoatsModel", "isDrain", "(I)Z"⟩, 28), (⟨"BathBoatsModel", "isTap", "(I)Z"⟩, 28), (⟨"BathBoatsModel", "ofTap", "(II)I"⟩, 28), (⟨"BathBoatsModel", "isCell", "(II)Z"⟩, 28), (⟨"BathBoatsModel", "cellAt", "(II)I"⟩, 28), (⟨"BathBoatsModel", "endedAhead", "(I)I"⟩, 28), (⟨"BathBoatsModel", "flowIn", "(II)F"⟩, 28), (⟨"BathBoatsModel", "share", "(IIII)F"⟩, 28), (⟨"BathBoatsModel", "growth", "(II)I"⟩, 28), (⟨"BathBoatsModel", "soapIn", "(II)I"⟩, 28), (⟨"BathBoatsModel", "force", "(I)F"⟩, 28), (⟨"BathBoatsModel", "touches", "(I)Z"⟩, 28)]
theorem lw_r4 : ∀ q ∈ lw_privs_4, lw_okq q := List.forall_mem_cons.mpr ⟨lw_p48, List.forall_mem_cons.mpr ⟨lw_p49, List.forall_mem_cons.mpr ⟨lw_p50, List.forall_mem_cons.mpr ⟨lw_p51, List.forall_mem_cons.mpr ⟨lw_p52, List.forall_mem_cons.mpr ⟨lw_p53, List.forall_mem_cons.mpr ⟨lw_p54, List.forall_mem_cons.mpr ⟨lw_p55, List.forall_mem_cons.mpr ⟨lw_p56, List.forall_mem_cons.mpr ⟨lw_p57, List.forall_mem_cons.mpr ⟨lw_p58, List.forall_mem_cons.mpr ⟨lw_p59, List.forall_mem_cons.mpr ⟨lw_p60, List.forall_mem_cons.mpr ⟨lw_p61, List.forall_mem_cons.mpr ⟨lw_p62, List.forall_mem_cons.mpr ⟨lw_p63, fun _ h => absurd h List.not_mem_nil⟩⟩⟩⟩⟩⟩⟩⟩⟩⟩⟩⟩⟩⟩⟩⟩
theorem lw_p64 : lw_okq (⟨"BathBoatsModel", "rest", "(I)I"⟩, 28) := ⟨⟨by decide +kernel, by decide +kernel⟩, List.mem_of_getElem? (i := 1308) (by decide +kernel), List.mem_of_getElem? (i := 1590) (by decide +kernel), List.mem_of_getElem? (i := 1591) (by decide +kernel)⟩
theorem lw_p65 : lw_okq (⟨"BathBoatsModel", "distance", "(II)I"⟩, 28) := ⟨⟨by decide +kernel, by decide +kernel⟩, List.mem_of_getElem? (i := 1308) (by decide +kernel), List.mem_of_getElem? (i := 1602) (by decide +kernel), List.mem_of_getElem? (i := 1603) (by decide +kernel)⟩
theorem lw_p66 : lw_okq (⟨"BathBoatsModel", "measure", "(II)V"⟩, 28) := ⟨⟨by decide +kernel, by decide +kernel⟩, List.mem_of_getElem? (i := 1308) (by decide +kernel), List.mem_of_getElem? (i := 1606) (by decide +kernel), List.mem_of_getElem? (i := 1607) (by decide +kernel)⟩
theorem lw_p67 : lw_okq (⟨"BathBoatsModel", "isFree", "(II)Z"⟩, 28) := ⟨⟨by decide +kernel, by decide +kernel⟩, List.mem_of_getElem? (i := 1308) (by decide +kernel), List.mem_of_getElem? (i := 1610) (by decide +kernel), List.mem_of_getElem? (i := 1611) (by decide +kernel)⟩
theorem lw_p68 : lw_okq (⟨"BathBoatsModel", "drainIn", "(I)I"⟩, 28) := ⟨⟨by decide +kernel, by decide +kernel⟩, List.mem_of_getElem? (i := 1308) (by decide +kernel), List.mem_of_getElem? (i := 1614) (by decide +kernel), List.mem_of_getElem? (i := 1615) (by decide +kernel)⟩
theorem lw_p69 : lw_okq (⟨"BathBoatsModel", "step", "(II)I"⟩, 28) := ⟨⟨by decide +kernel, by decide +kernel⟩, List.mem_of_getElem? (i := 1308) (by decide +kernel), List.mem_of_getElem? (i := 1618) (by decide +kernel), List.mem_of_getElem? (i := 1619) (by decide +kernel)⟩
theorem lw_p70 : lw_okq (⟨"BathBoatsModel", "neighbour", "(II)I"⟩, 28) := ⟨⟨by decide +kernel, by decide +kernel⟩, List.mem_of_getElem? (i := 1308) (by decide +kernel), List.mem_of_getElem? (i := 1622) (by decide +kernel), List.mem_of_getElem? (i := 1623) (by decide +kernel)⟩
theorem lw_p71 : lw_okq (⟨"BathBoatsModel", "firstStep", "(II)I"⟩, 28) := ⟨⟨by decide +kernel, by decide +kernel⟩, List.mem_of_getElem? (i := 1308) (by decide +kernel), List.mem_of_getElem? (i := 1630) (by decide +kernel), List.mem_of_getElem? (i := 1631) (by decide +kernel)⟩
theorem lw_p72 : lw_okq (⟨"BathBoatsModel", "leave", "()V"⟩, 28) := ⟨⟨by decide +kernel, by decide +kernel⟩, List.mem_of_getElem? (i := 1308) (by decide +kernel), List.mem_of_getElem? (i := 1638) (by decide +kernel), List.mem_of_getElem? (i := 1639) (by decide +kernel)⟩
theorem lw_p73 : lw_okq (⟨"BathBoatsModel", "pass", "()V"⟩, 28) := ⟨⟨by decide +kernel, by decide +kernel⟩, List.mem_of_getElem? (i := 1308) (by decide +kernel), List.mem_of_getElem? (i := 1645) (by decide +kernel), List.mem_of_getElem? (i := 1646) (by decide +kernel)⟩
theorem lw_p74 : lw_okq (⟨"BathBoatsModel", "changeLevel", "()V"⟩, 28) := ⟨⟨by decide +kernel, by decide +kernel⟩, List.mem_of_getElem? (i := 1308) (by decide +kernel), List.mem_of_getElem? (i := 1649) (by decide +kernel), List.mem_of_getElem? (i := 1650) (by decide +kernel)⟩
theorem lw_p75 : lw_okq (⟨"BathBoatsModel", "drift", "(I)V"⟩, 28) := ⟨⟨by decide +kernel, by decide +kernel⟩, List.mem_of_getElem? (i := 1308) (by decide +kernel), List.mem_of_getElem? (i := 1653) (by decide +kernel), List.mem_of_getElem? (i := 1654) (by decide +kernel)⟩
theorem lw_p76 : lw_okq (⟨"BathBoatsModel", "lay", "(III)V"⟩, 28) := ⟨⟨by decide +kernel, by decide +kernel⟩, List.mem_of_getElem? (i := 1308) (by decide +kernel), List.mem_of_getElem? (i := 1660) (by decide +kernel), List.mem_of_getElem? (i := 1661) (by decide +kernel)⟩
theorem lw_p77 : lw_okq (⟨"BathBoatsModel", "move", "(II)V"⟩, 28) := ⟨⟨by decide +kernel, by decide +kernel⟩, List.mem_of_getElem? (i := 1308) (by decide +kernel), List.mem_of_getElem? (i := 1664) (by decide +kernel), List.mem_of_getElem? (i := 1665) (by decide +kernel)⟩
theorem lw_p78 : lw_okq (⟨"BathBoatsModel", "soak", "(I)V"⟩, 28) := ⟨⟨by decide +kernel, by decide +kernel⟩, List.mem_of_getElem? (i := 1308) (by decide +kernel), List.mem_of_getElem? (i := 1668) (by decide +kernel), List.mem_of_getElem? (i := 1669) (by decide +kernel)⟩
theorem lw_p79 : lw_okq (⟨"BathBoatsModel", "end", "(II)V"⟩, 28) := ⟨⟨by decide +kernel, by decide +kernel⟩, List.mem_of_getElem? (i := 1308) (by decide +kernel), List.mem_of_getElem? (i := 1672) (by decide +kernel), List.mem_of_getElem? (i := 1673) (by decide +kernel)⟩
def lw_privs_5 : List (MethodName × Nat) := [(⟨"BathBoatsModel", "rest", "(I)I"⟩, 28), (⟨"BathBoatsModel", "distance", "(II)I"⟩, 28), (⟨"BathBoatsModel", "measure", "(II)V"⟩, 28), (⟨"BathBoatsModel", "isFree", "(II)Z"⟩, 28), (⟨"BathBoatsModel", "drainIn", "(I)I"⟩, 28), (⟨"BathBoatsModel", "step", "(II)I"⟩, 28), (⟨"BathBoatsModel", "neighbour", "(II)I"⟩, 28), (⟨"BathBoatsModel", "firstStep", "(II)I"⟩, 28), (⟨"BathBoatsModel", "leave", "()V"⟩, 28), (⟨"BathBoatsModel", "pass", "()V"⟩, 28), (⟨"BathBoatsModel", "changeLevel", "()V"⟩, 28), (⟨"BathBoatsModel", "drift", "(I)V"⟩, 28), (⟨"BathBoatsModel", "lay", "(III)V"⟩, 28), (⟨"BathBoatsModel", "move", "(II)V"⟩, 28), (⟨"BathBoatsModel", "soak", "(I)V"⟩, 28), (⟨"BathBoatsModel", "end", "(II)V"⟩, 28)]
theorem lw_r5 : ∀ q ∈ lw_privs_5, lw_okq q := List.forall_mem_cons.mpr ⟨lw_p64, List.forall_mem_cons.mpr ⟨lw_p65, List.forall_mem_cons.mpr ⟨lw_p66, List.forall_mem_cons.mpr ⟨lw_p67, List.forall_mem_cons.mpr ⟨lw_p68, List.forall_mem_cons.mpr ⟨lw_p69, List.forall_mem_cons.mpr ⟨lw_p70, List.forall_mem_cons.mpr ⟨lw_p71, List.forall_mem_cons.mpr ⟨lw_p72, List.forall_mem_cons.mpr ⟨lw_p73, List.forall_mem_cons.mpr ⟨lw_p74, List.forall_mem_cons.mpr ⟨lw_p75, List.forall_mem_cons.mpr ⟨lw_p76, List.forall_mem_cons.mpr ⟨lw_p77, List.forall_mem_cons.mpr ⟨lw_p78, List.forall_mem_cons.mpr ⟨lw_p79, fun _ h => absurd h List.not_mem_nil⟩⟩⟩⟩⟩⟩⟩⟩⟩⟩⟩⟩⟩⟩⟩⟩
theorem lw_p80 : lw_okq (⟨"BathBoatsModel", "spreadSoap", "()V"⟩, 28) := ⟨⟨by decide +kernel, by decide +kernel⟩, List.mem_of_getElem? (i := 1308) (by decide +kernel), List.mem_of_getElem? (i := 1676) (by decide +kernel), List.mem_of_getElem? (i := 1677) (by decide +kernel)⟩
theorem lw_p81 : lw_okq (⟨"BathBoatsModel", "spreadsFrom", "(II)I"⟩, 28) := ⟨⟨by decide +kernel, by decide +kernel⟩, List.mem_of_getElem? (i := 1308) (by decide +kernel), List.mem_of_getElem? (i := 1680) (by decide +kernel), List.mem_of_getElem? (i := 1681) (by decide +kernel)⟩
theorem lw_p82 : lw_okq (⟨"BathBoatsModel", "comeBack", "()V"⟩, 28) := ⟨⟨by decide +kernel, by decide +kernel⟩, List.mem_of_getElem? (i := 1308) (by decide +kernel), List.mem_of_getElem? (i := 1684) (by decide +kernel), List.mem_of_getElem? (i := 1685) (by decide +kernel)⟩
theorem lw_p83 : lw_okq (⟨"BathBoatsModel", "pass", "(I)V"⟩, 28) := ⟨⟨by decide +kernel, by decide +kernel⟩, List.mem_of_getElem? (i := 1308) (by decide +kernel), List.mem_of_getElem? (i := 1696) (by decide +kernel), List.mem_of_getElem? (i := 1697) (by decide +kernel)⟩
theorem lw_p84 : lw_okq (⟨"BathBoatsModel", "lifeNow", "(I)I"⟩, 28) := ⟨⟨by decide +kernel, by decide +kernel⟩, List.mem_of_getElem? (i := 1308) (by decide +kernel), List.mem_of_getElem? (i := 1708) (by decide +kernel), List.mem_of_getElem? (i := 1709) (by decide +kernel)⟩
theorem lw_p85 : lw_okq (⟨"BathBoatsModel", "life", "(I)I"⟩, 28) := ⟨⟨by decide +kernel, by decide +kernel⟩, List.mem_of_getElem? (i := 1308) (by decide +kernel), List.mem_of_getElem? (i := 1712) (by decide +kernel), List.mem_of_getElem? (i := 1713) (by decide +kernel)⟩
theorem lw_p86 : lw_okq (⟨"BathBoatsModel", "addSoap", "(II)V"⟩, 28) := ⟨⟨by decide +kernel, by decide +kernel⟩, List.mem_of_getElem? (i := 1308) (by decide +kernel), List.mem_of_getElem? (i := 1716) (by decide +kernel), List.mem_of_getElem? (i := 1717) (by decide +kernel)⟩
theorem lw_p87 : lw_okq (⟨"BathBoatsModel", "put", "(II)V"⟩, 28) := ⟨⟨by decide +kernel, by decide +kernel⟩, List.mem_of_getElem? (i := 1308) (by decide +kernel), List.mem_of_getElem? (i := 1724) (by decide +kernel), List.mem_of_getElem? (i := 1725) (by decide +kernel)⟩
theorem lw_p88 : lw_okq (⟨"BathBoatsModel", "record", "()V"⟩, 28) := ⟨⟨by decide +kernel, by decide +kernel⟩, List.mem_of_getElem? (i := 1308) (by decide +kernel), List.mem_of_getElem? (i := 1744) (by decide +kernel), List.mem_of_getElem? (i := 1745) (by decide +kernel)⟩
theorem lw_p89 : lw_okq (⟨"BathBoatsModel", "newBoat", "(IIII)V"⟩, 28) := ⟨⟨by decide +kernel, by decide +kernel⟩, List.mem_of_getElem? (i := 1308) (by decide +kernel), List.mem_of_getElem? (i := 1748) (by decide +kernel), List.mem_of_getElem? (i := 1749) (by decide +kernel)⟩
theorem lw_p90 : lw_okq (⟨"BathBoatsModel", "set", "(II)I"⟩, 28) := ⟨⟨by decide +kernel, by decide +kernel⟩, List.mem_of_getElem? (i := 1308) (by decide +kernel), List.mem_of_getElem? (i := 1772) (by decide +kernel), List.mem_of_getElem? (i := 1773) (by decide +kernel)⟩
theorem lw_p91 : lw_okq (⟨"BathBoatsModel", "sign", "(I)I"⟩, 28) := ⟨⟨by decide +kernel, by decide +kernel⟩, List.mem_of_getElem? (i := 1308) (by decide +kernel), List.mem_of_getElem? (i := 1808) (by decide +kernel), List.mem_of_getElem? (i := 1809) (by decide +kernel)⟩
theorem lw_p92 : lw_okq (⟨"BathBoatsModel", "tapIn", "(I)I"⟩, 28) := ⟨⟨by decide +kernel, by decide +kernel⟩, List.mem_of_getElem? (i := 1308) (by decide +kernel), List.mem_of_getElem? (i := 1812) (by decide +kernel), List.mem_of_getElem? (i := 1813) (by decide +kernel)⟩
theorem lw_p93 : lw_okq (⟨"BathBoatsModel", "startText", "(I)V"⟩, 28) := ⟨⟨by decide +kernel, by decide +kernel⟩, List.mem_of_getElem? (i := 1308) (by decide +kernel), List.mem_of_getElem? (i := 1848) (by decide +kernel), List.mem_of_getElem? (i := 1849) (by decide +kernel)⟩
theorem lw_p94 : lw_okq (⟨"BathBoatsModel", "scan", "()V"⟩, 28) := ⟨⟨by decide +kernel, by decide +kernel⟩, List.mem_of_getElem? (i := 1308) (by decide +kernel), List.mem_of_getElem? (i := 1852) (by decide +kernel), List.mem_of_getElem? (i := 1853) (by decide +kernel)⟩
theorem lw_p95 : lw_okq (⟨"BathBoatsModel", "byteAt", "(I)I"⟩, 28) := ⟨⟨by decide +kernel, by decide +kernel⟩, List.mem_of_getElem? (i := 1308) (by decide +kernel), List.mem_of_getElem? (i := 1856) (by decide +kernel), List.mem_of_getElem? (i := 1857) (by decide +kernel)⟩
def lw_privs_6 : List (MethodName × Nat) := [(⟨"BathBoatsModel", "spreadSoap", "()V"⟩, 28), (⟨"BathBoatsModel", "spreadsFrom", "(II)I"⟩, 28), (⟨"BathBoatsModel", "comeBack", "()V"⟩, 28), (⟨"BathBoatsModel", "pass", "(I)V"⟩, 28), (⟨"BathBoatsModel", "lifeNow", "(I)I"⟩, 28), (⟨"BathBoatsModel", "life", "(I)I"⟩, 28), (⟨"BathBoatsModel", "addSoap", "(II)V"⟩, 28), (⟨"BathBoatsModel", "put", "(II)V"⟩, 28), (⟨"BathBoatsModel", "record", "()V"⟩, 28), (⟨"BathBoatsModel", "newBoat", "(IIII)V"⟩, 28), (⟨"BathBoatsModel", "set", "(II)I"⟩, 28), (⟨"BathBoatsModel", "sign", "(I)I"⟩, 28), (⟨"BathBoatsModel", "tapIn", "(I)I"⟩, 28), (⟨"BathBoatsModel", "startText", "(I)V"⟩, 28), (⟨"BathBoatsModel", "scan", "()V"⟩, 28), (⟨"BathBoatsModel", "byteAt", "(I)I"⟩, 28)]
theorem lw_r6 : ∀ q ∈ lw_privs_6, lw_okq q := List.forall_mem_cons.mpr ⟨lw_p80, List.forall_mem_cons.mpr ⟨lw_p81, List.forall_mem_cons.mpr ⟨lw_p82, List.forall_mem_cons.mpr ⟨lw_p83, List.forall_mem_cons.mpr ⟨lw_p84, List.forall_mem_cons.mpr ⟨lw_p85, List.forall_mem_cons.mpr ⟨lw_p86, List.forall_mem_cons.mpr ⟨lw_p87, List.forall_mem_cons.mpr ⟨lw_p88, List.forall_mem_cons.mpr ⟨lw_p89, List.forall_mem_cons.mpr ⟨lw_p90, List.forall_mem_cons.mpr ⟨lw_p91, List.forall_mem_cons.mpr ⟨lw_p92, List.forall_mem_cons.mpr ⟨lw_p93, List.forall_mem_cons.mpr ⟨lw_p94, List.forall_mem_cons.mpr ⟨lw_p95, fun _ h => absurd h List.not_mem_nil⟩⟩⟩⟩⟩⟩⟩⟩⟩⟩⟩⟩⟩⟩⟩⟩
theorem lw_p96 : lw_okq (⟨"BathBoatsModel", "isLetter", "(I)Z"⟩, 28) := ⟨⟨by decide +kernel, by decide +kernel⟩, List.mem_of_getElem? (i := 1308) (by decide +kernel), List.mem_of_getElem? (i := 1860) (by decide +kernel), List.mem_of_getElem? (i := 1861) (by decide +kernel)⟩
theorem lw_p97 : lw_okq (⟨"BathBoatsModel", "isDigit", "(I)Z"⟩, 28) := ⟨⟨by decide +kernel, by decide +kernel⟩, List.mem_of_getElem? (i := 1308) (by decide +kernel), List.mem_of_getElem? (i := 1864) (by decide +kernel), List.mem_of_getElem? (i := 1865) (by decide +kernel)⟩
theorem lw_p98 : lw_okq (⟨"BathBoatsModel", "readAll", "()V"⟩, 28) := ⟨⟨by decide +kernel, by decide +kernel⟩, List.mem_of_getElem? (i := 1308) (by decide +kernel), List.mem_of_getElem? (i := 1868) (by decide +kernel), List.mem_of_getElem? (i := 1869) (by decide +kernel)⟩
theorem lw_p99 : lw_okq (⟨"BathBoatsModel", "readHead", "()V"⟩, 28) := ⟨⟨by decide +kernel, by decide +kernel⟩, List.mem_of_getElem? (i := 1308) (by decide +kernel), List.mem_of_getElem? (i := 1872) (by decide +kernel), List.mem_of_getElem? (i := 1873) (by decide +kernel)⟩
theorem lw_p100 : lw_okq (⟨"BathBoatsModel", "isWord", "(Ljava/lang/String;)Z"⟩, 28) := ⟨⟨by decide +kernel, by decide +kernel⟩, List.mem_of_getElem? (i := 1308) (by decide +kernel), List.mem_of_getElem? (i := 1877) (by decide +kernel), List.mem_of_getElem? (i := 1878) (by decide +kernel)⟩
theorem lw_p101 : lw_okq (⟨"BathBoatsModel", "check", "(ZI)V"⟩, 28) := ⟨⟨by decide +kernel, by decide +kernel⟩, List.mem_of_getElem? (i := 1308) (by decide +kernel), List.mem_of_getElem? (i := 1883) (by decide +kernel), List.mem_of_getElem? (i := 1884) (by decide +kernel)⟩
theorem lw_p102 : lw_okq (⟨"BathBoatsModel", "advance", "()V"⟩, 28) := ⟨⟨by decide +kernel, by decide +kernel⟩, List.mem_of_getElem? (i := 1308) (by decide +kernel), List.mem_of_getElem? (i := 1887) (by decide +kernel), List.mem_of_getElem? (i := 1888) (by decide +kernel)⟩
theorem lw_p103 : lw_okq (⟨"BathBoatsModel", "readNumber", "(II)I"⟩, 28) := ⟨⟨by decide +kernel, by decide +kernel⟩, List.mem_of_getElem? (i := 1308) (by decide +kernel), List.mem_of_getElem? (i := 1891) (by decide +kernel), List.mem_of_getElem? (i := 1892) (by decide +kernel)⟩
theorem lw_p104 : lw_okq (⟨"BathBoatsModel", "look", "(II)I"⟩, 28) := ⟨⟨by decide +kernel, by decide +kernel⟩, List.mem_of_getElem? (i := 1308) (by decide +kernel), List.mem_of_getElem? (i := 1895) (by decide +kernel), List.mem_of_getElem? (i := 1896) (by decide +kernel)⟩
theorem lw_p105 : lw_okq (⟨"BathBoatsModel", "value", "()I"⟩, 28) := ⟨⟨by decide +kernel, by decide +kernel⟩, List.mem_of_getElem? (i := 1308) (by decide +kernel), List.mem_of_getElem? (i := 1899) (by decide +kernel), List.mem_of_getElem? (i := 1900) (by decide +kernel)⟩
theorem lw_p106 : lw_okq (⟨"BathBoatsModel", "accept", "(Ljava/lang/String;)Z"⟩, 28) := ⟨⟨by decide +kernel, by decide +kernel⟩, List.mem_of_getElem? (i := 1308) (by decide +kernel), List.mem_of_getElem? (i := 1905) (by decide +kernel), List.mem_of_getElem? (i := 1906) (by decide +kernel)⟩
theorem lw_p107 : lw_okq (⟨"BathBoatsModel", "readWind", "()I"⟩, 28) := ⟨⟨by decide +kernel, by decide +kernel⟩, List.mem_of_getElem? (i := 1308) (by decide +kernel), List.mem_of_getElem? (i := 1911) (by decide +kernel), List.mem_of_getElem? (i := 1912) (by decide +kernel)⟩
theorem lw_p108 : lw_okq (⟨"BathBoatsModel", "isSymbol", "(I)Z"⟩, 28) := ⟨⟨by decide +kernel, by decide +kernel⟩, List.mem_of_getElem? (i := 1308) (by decide +kernel), List.mem_of_getElem? (i := 1915) (by decide +kernel), List.mem_of_getElem? (i := 1916) (by decide +kernel)⟩
theorem lw_p109 : lw_okq (⟨"BathBoatsModel", "expect", "(I)V"⟩, 28) := ⟨⟨by decide +kernel, by decide +kernel⟩, List.mem_of_getElem? (i := 1308) (by decide +kernel), List.mem_of_getElem? (i := 1919) (by decide +kernel), List.mem_of_getElem? (i := 1920) (by decide +kernel)⟩
theorem lw_p110 : lw_okq (⟨"BathBoatsModel", "readDrain", "()V"⟩, 28) := ⟨⟨by decide +kernel, by decide +kernel⟩, List.mem_of_getElem? (i := 1308) (by decide +kernel), List.mem_of_getElem? (i := 1924) (by decide +kernel), List.mem_of_getElem? (i := 1925) (by decide +kernel)⟩
theorem lw_p111 : lw_okq (⟨"BathBoatsModel", "readCell", "(I)I"⟩, 28) := ⟨⟨by decide +kernel, by decide +kernel⟩, List.mem_of_getElem? (i := 1308) (by decide +kernel), List.mem_of_getElem? (i := 1928) (by decide +kernel), List.mem_of_getElem? (i := 1929) (by decide +kernel)⟩
def lw_privs_7 : List (MethodName × Nat) := [(⟨"BathBoatsModel", "isLetter", "(I)Z"⟩, 28), (⟨"BathBoatsModel", "isDigit", "(I)Z"⟩, 28), (⟨"BathBoatsModel", "readAll", "()V"⟩, 28), (⟨"BathBoatsModel", "readHead", "()V"⟩, 28), (⟨"BathBoatsModel", "isWord", "(Ljava/lang/String;)Z"⟩, 28), (⟨"BathBoatsModel", "check", "(ZI)V"⟩, 28), (⟨"BathBoatsModel", "advance", "()V"⟩, 28), (⟨"BathBoatsModel", "readNumber", "(II)I"⟩, 28), (⟨"BathBoatsModel", "look", "(II)I"⟩, 28), (⟨"BathBoatsModel", "value", "()I"⟩, 28), (⟨"BathBoatsModel", "accept", "(Ljava/lang/String;)Z"⟩, 28), (⟨"BathBoatsModel", "readWind", "()I"⟩, 28), (⟨"BathBoatsModel", "isSymbol", "(I)Z"⟩, 28), (⟨"BathBoatsModel", "expect", "(I)V"⟩, 28), (⟨"BathBoatsModel", "readDrain", "()V"⟩, 28), (⟨"BathBoatsModel", "readCell", "(I)I"⟩, 28)]
theorem lw_r7 : ∀ q ∈ lw_privs_7, lw_okq q := List.forall_mem_cons.mpr ⟨lw_p96, List.forall_mem_cons.mpr ⟨lw_p97, List.forall_mem_cons.mpr ⟨lw_p98, List.forall_mem_cons.mpr ⟨lw_p99, List.forall_mem_cons.mpr ⟨lw_p100, List.forall_mem_cons.mpr ⟨lw_p101, List.forall_mem_cons.mpr ⟨lw_p102, List.forall_mem_cons.mpr ⟨lw_p103, List.forall_mem_cons.mpr ⟨lw_p104, List.forall_mem_cons.mpr ⟨lw_p105, List.forall_mem_cons.mpr ⟨lw_p106, List.forall_mem_cons.mpr ⟨lw_p107, List.forall_mem_cons.mpr ⟨lw_p108, List.forall_mem_cons.mpr ⟨lw_p109, List.forall_mem_cons.mpr ⟨lw_p110, List.forall_mem_cons.mpr ⟨lw_p111, fun _ h => absurd h List.not_mem_nil⟩⟩⟩⟩⟩⟩⟩⟩⟩⟩⟩⟩⟩⟩⟩⟩
theorem lw_p112 : lw_okq (⟨"BathBoatsModel", "addDrain", "(III)V"⟩, 28) := ⟨⟨by decide +kernel, by decide +kernel⟩, List.mem_of_getElem? (i := 1308) (by decide +kernel), List.mem_of_getElem? (i := 1932) (by decide +kernel), List.mem_of_getElem? (i := 1933) (by decide +kernel)⟩
theorem lw_p113 : lw_okq (⟨"BathBoatsModel", "readTap", "()V"⟩, 28) := ⟨⟨by decide +kernel, by decide +kernel⟩, List.mem_of_getElem? (i := 1308) (by decide +kernel), List.mem_of_getElem? (i := 1937) (by decide +kernel), List.mem_of_getElem? (i := 1938) (by decide +kernel)⟩
theorem lw_p114 : lw_okq (⟨"BathBoatsModel", "addTap", "(II)V"⟩, 28) := ⟨⟨by decide +kernel, by decide +kernel⟩, List.mem_of_getElem? (i := 1308) (by decide +kernel), List.mem_of_getElem? (i := 1941) (by decide +kernel), List.mem_of_getElem? (i := 1942) (by decide +kernel)⟩
theorem lw_p115 : lw_okq (⟨"BathBoatsModel", "readBoat", "()V"⟩, 28) := ⟨⟨by decide +kernel, by decide +kernel⟩, List.mem_of_getElem? (i := 1308) (by decide +kernel), List.mem_of_getElem? (i := 1945) (by decide +kernel), List.mem_of_getElem? (i := 1946) (by decide +kernel)⟩
theorem lw_p116 : lw_okq (⟨"BathBoatsModel", "readSoap", "()V"⟩, 28) := ⟨⟨by decide +kernel, by decide +kernel⟩, List.mem_of_getElem? (i := 1308) (by decide +kernel), List.mem_of_getElem? (i := 1949) (by decide +kernel), List.mem_of_getElem? (i := 1950) (by decide +kernel)⟩
theorem lw_p117 : lw_okq (⟨"BathBoatsModel", "finish", "()I"⟩, 28) := ⟨⟨by decide +kernel, by decide +kernel⟩, List.mem_of_getElem? (i := 1308) (by decide +kernel), List.mem_of_getElem? (i := 1953) (by decide +kernel), List.mem_of_getElem? (i := 1954) (by decide +kernel)⟩
theorem lw_p118 : lw_okq (⟨"BathBoatsModel", "compileTest", "()V"⟩, 28) := ⟨⟨by decide +kernel, by decide +kernel⟩, List.mem_of_getElem? (i := 1308) (by decide +kernel), List.mem_of_getElem? (i := 1963) (by decide +kernel), List.mem_of_getElem? (i := 1964) (by decide +kernel)⟩
theorem lw_p119 : lw_okq (⟨"BathBoatsModel", "compileConjunction", "()V"⟩, 28) := ⟨⟨by decide +kernel, by decide +kernel⟩, List.mem_of_getElem? (i := 1308) (by decide +kernel), List.mem_of_getElem? (i := 1967) (by decide +kernel), List.mem_of_getElem? (i := 1968) (by decide +kernel)⟩
theorem lw_p120 : lw_okq (⟨"BathBoatsModel", "compileFactor", "()V"⟩, 28) := ⟨⟨by decide +kernel, by decide +kernel⟩, List.mem_of_getElem? (i := 1308) (by decide +kernel), List.mem_of_getElem? (i := 1971) (by decide +kernel), List.mem_of_getElem? (i := 1972) (by decide +kernel)⟩
theorem lw_p121 : lw_okq (⟨"BathBoatsModel", "enter", "()V"⟩, 28) := ⟨⟨by decide +kernel, by decide +kernel⟩, List.mem_of_getElem? (i := 1308) (by decide +kernel), List.mem_of_getElem? (i := 1976) (by decide +kernel), List.mem_of_getElem? (i := 1977) (by decide +kernel)⟩
theorem lw_p122 : lw_okq (⟨"BathBoatsModel", "emit", "(I)V"⟩, 28) := ⟨⟨by decide +kernel, by decide +kernel⟩, List.mem_of_getElem? (i := 1308) (by decide +kernel), List.mem_of_getElem? (i := 1980) (by decide +kernel), List.mem_of_getElem? (i := 1981) (by decide +kernel)⟩
theorem lw_p123 : lw_okq (⟨"BathBoatsModel", "compileComparison", "()V"⟩, 28) := ⟨⟨by decide +kernel, by decide +kernel⟩, List.mem_of_getElem? (i := 1308) (by decide +kernel), List.mem_of_getElem? (i := 1984) (by decide +kernel), List.mem_of_getElem? (i := 1985) (by decide +kernel)⟩
theorem lw_p124 : lw_okq (⟨"BathBoatsModel", "compileValue", "()V"⟩, 28) := ⟨⟨by decide +kernel, by decide +kernel⟩, List.mem_of_getElem? (i := 1308) (by decide +kernel), List.mem_of_getElem? (i := 1988) (by decide +kernel), List.mem_of_getElem? (i := 1989) (by decide +kernel)⟩
theorem lw_p125 : lw_okq (⟨"BathBoatsModel", "holdsFor", "(I)Z"⟩, 28) := ⟨⟨by decide +kernel, by decide +kernel⟩, List.mem_of_getElem? (i := 1308) (by decide +kernel), List.mem_of_getElem? (i := 1995) (by decide +kernel), List.mem_of_getElem? (i := 1996) (by decide +kernel)⟩
theorem lw_p126 : lw_okq (⟨"BathBoatsModel", "property", "(II)I"⟩, 28) := ⟨⟨by decide +kernel, by decide +kernel⟩, List.mem_of_getElem? (i := 1308) (by decide +kernel), List.mem_of_getElem? (i := 1999) (by decide +kernel), List.mem_of_getElem? (i := 2000) (by decide +kernel)⟩
def lw_privs_8 : List (MethodName × Nat) := [(⟨"BathBoatsModel", "addDrain", "(III)V"⟩, 28), (⟨"BathBoatsModel", "readTap", "()V"⟩, 28), (⟨"BathBoatsModel", "addTap", "(II)V"⟩, 28), (⟨"BathBoatsModel", "readBoat", "()V"⟩, 28), (⟨"BathBoatsModel", "readSoap", "()V"⟩, 28), (⟨"BathBoatsModel", "finish", "()I"⟩, 28), (⟨"BathBoatsModel", "compileTest", "()V"⟩, 28), (⟨"BathBoatsModel", "compileConjunction", "()V"⟩, 28), (⟨"BathBoatsModel", "compileFactor", "()V"⟩, 28), (⟨"BathBoatsModel", "enter", "()V"⟩, 28), (⟨"BathBoatsModel", "emit", "(I)V"⟩, 28), (⟨"BathBoatsModel", "compileComparison", "()V"⟩, 28), (⟨"BathBoatsModel", "compileValue", "()V"⟩, 28), (⟨"BathBoatsModel", "holdsFor", "(I)Z"⟩, 28), (⟨"BathBoatsModel", "property", "(II)I"⟩, 28)]
theorem lw_r8 : ∀ q ∈ lw_privs_8, lw_okq q := List.forall_mem_cons.mpr ⟨lw_p112, List.forall_mem_cons.mpr ⟨lw_p113, List.forall_mem_cons.mpr ⟨lw_p114, List.forall_mem_cons.mpr ⟨lw_p115, List.forall_mem_cons.mpr ⟨lw_p116, List.forall_mem_cons.mpr ⟨lw_p117, List.forall_mem_cons.mpr ⟨lw_p118, List.forall_mem_cons.mpr ⟨lw_p119, List.forall_mem_cons.mpr ⟨lw_p120, List.forall_mem_cons.mpr ⟨lw_p121, List.forall_mem_cons.mpr ⟨lw_p122, List.forall_mem_cons.mpr ⟨lw_p123, List.forall_mem_cons.mpr ⟨lw_p124, List.forall_mem_cons.mpr ⟨lw_p125, List.forall_mem_cons.mpr ⟨lw_p126, fun _ h => absurd h List.not_mem_nil⟩⟩⟩⟩⟩⟩⟩⟩⟩⟩⟩⟩⟩⟩⟩
def lw_privs : List (MethodName × Nat) := lw_privs_1 ++ (lw_privs_2 ++ (lw_privs_3 ++ (lw_privs_4 ++ (lw_privs_5 ++ (lw_privs_6 ++ (lw_privs_7 ++ (lw_privs_8)))))))
def lw_tbl : List Cond := k2_sels lw_privs ++ tables_1
theorem lw_privs_ok : ∀ q ∈ lw_privs, lw_okq q := by
  show ∀ q ∈ lw_privs_1 ++ (lw_privs_2 ++ (lw_privs_3 ++ (lw_privs_4 ++ (lw_privs_5 ++ (lw_privs_6 ++ (lw_privs_7 ++ (lw_privs_8))))))), lw_okq q
  exact List.forall_mem_append.mpr ⟨lw_r1, List.forall_mem_append.mpr ⟨lw_r2, List.forall_mem_append.mpr ⟨lw_r3, List.forall_mem_append.mpr ⟨lw_r4, List.forall_mem_append.mpr ⟨lw_r5, List.forall_mem_append.mpr ⟨lw_r6, List.forall_mem_append.mpr ⟨lw_r7, lw_r8⟩⟩⟩⟩⟩⟩⟩
/-- the streams that the claim lets the run draw from -/
abbrev lw_cs : List Choice := [Jvm.Choice.named "NaN.bits"]
theorem lw_bits : nanBits ∈ lw_cs := by first | decide | exact List.mem_cons_self | simp [lw_cs, nanBits]
end
section
def RX0 : String := "BathBoats$Bath"
def TX0 : u_T := fun k => match k with
  | 0 => ("BathBoats$Bath", "boats", "LBathBoats$Table;", true)
  | 1 => ("BathBoats$Bath", "drains", "LBathBoats$Table;", true)
  | 2 => ("BathBoats$Bath", "taps", "LBathBoats$Table;", true)
  | 3 => ("BathBoats$Bath", "soaps", "LBathBoats$Row;", true)
  | 4 => ("BathBoats$Bath", "occupants", "LBathBoats$Row;", true)
  | 5 => ("BathBoats$Bath", "endedBoats", "LBathBoats$Row;", true)
  | 6 => ("BathBoats$Bath", "width", "I", false)
  | 7 => ("BathBoats$Bath", "height", "I", false)
  | 8 => ("BathBoats$Bath", "level", "I", false)
  | 9 => ("BathBoats$Bath", "push", "I", false)
  | 10 => ("BathBoats$Bath", "windX", "I", false)
  | 11 => ("BathBoats$Bath", "windY", "I", false)
  | 12 => ("BathBoats$Bath", "time", "I", false)
  | 13 => ("BathBoats$Bath", "boatCount", "I", false)
  | 14 => ("BathBoats$Bath", "drainCount", "I", false)
  | 15 => ("BathBoats$Bath", "tapCount", "I", false)
  | _ => ("BathBoats$Bath", "endedCount", "I", false)
def tyX0 : Nat → FieldType := fun k => match k with
  | 0 => .object "BathBoats$Table"
  | 1 => .object "BathBoats$Table"
  | 2 => .object "BathBoats$Table"
  | 3 => .object "BathBoats$Row"
  | 4 => .object "BathBoats$Row"
  | 5 => .object "BathBoats$Row"
  | 6 => .int
  | 7 => .int
  | 8 => .int
  | 9 => .int
  | 10 => .int
  | 11 => .int
  | 12 => .int
  | 13 => .int
  | 14 => .int
  | 15 => .int
  | _ => .int
theorem nmX0 : ∀ a, a < 17 → ∀ b, b < 17 → a ≠ b → (TX0 a).2.1 ≠ (TX0 b).2.1 := by decide +kernel
theorem tyX0_ok : ∀ k, k < 17 → parseFieldDescriptor (TX0 k).2.2.1 = some (tyX0 k) := by decide +kernel
abbrev cX0_init : ByteArray := prog_2_method_1_code
def yX0_init : MethodName := ⟨RX0, "<init>", "()V"⟩
abbrev cX0_begin : ByteArray := prog_2_method_2_code
def yX0_begin : MethodName := ⟨RX0, "begin", "(II)V"⟩
abbrev cX0_copyFrom : ByteArray := prog_2_method_3_code
def yX0_copyFrom : MethodName := ⟨RX0, "copyFrom", "(LBathBoats$Bath;)V"⟩
abbrev cX0_cellCount : ByteArray := prog_2_method_4_code
def yX0_cellCount : MethodName := ⟨RX0, "cellCount", "()I"⟩
abbrev cX0_cellAt : ByteArray := prog_2_method_5_code
def yX0_cellAt : MethodName := ⟨RX0, "cellAt", "(II)I"⟩
abbrev cX0_columnOf : ByteArray := prog_2_method_6_code
def yX0_columnOf : MethodName := ⟨RX0, "columnOf", "(I)I"⟩
abbrev cX0_rowOf : ByteArray := prog_2_method_7_code
def yX0_rowOf : MethodName := ⟨RX0, "rowOf", "(I)I"⟩
abbrev cX0_cellOf : ByteArray := prog_2_method_8_code
def yX0_cellOf : MethodName := ⟨RX0, "cellOf", "(I)I"⟩
abbrev cX0_isAfloat : ByteArray := prog_2_method_9_code
def yX0_isAfloat : MethodName := ⟨RX0, "isAfloat", "(I)Z"⟩
abbrev cX0_hasOtherBoat : ByteArray := prog_2_method_10_code
def yX0_hasOtherBoat : MethodName := ⟨RX0, "hasOtherBoat", "(II)Z"⟩
abbrev cX0_reserve : ByteArray := prog_2_method_11_code
def yX0_reserve : MethodName := ⟨RX0, "reserve", "(I)I"⟩
abbrev cX0_drainWorks : ByteArray := prog_2_method_12_code
def yX0_drainWorks : MethodName := ⟨RX0, "drainWorks", "(I)Z"⟩
abbrev cX0_wouldDrain : ByteArray := prog_2_method_13_code
def yX0_wouldDrain : MethodName := ⟨RX0, "wouldDrain", "(II)Z"⟩
abbrev cX0_drainIn : ByteArray := prog_2_method_14_code
def yX0_drainIn : MethodName := ⟨RX0, "drainIn", "(I)I"⟩
abbrev cX0_tapIn : ByteArray := prog_2_method_15_code
def yX0_tapIn : MethodName := ⟨RX0, "tapIn", "(I)I"⟩
abbrev cX0_countBoats : ByteArray := prog_2_method_16_code
def yX0_countBoats : MethodName := ⟨RX0, "countBoats", "(I)I"⟩
abbrev cX0_countWorkingDrains : ByteArray := prog_2_method_17_code
def yX0_countWorkingDrains : MethodName := ⟨RX0, "countWorkingDrains", "()I"⟩
abbrev cX0_countSoap : ByteArray := prog_2_method_18_code
def yX0_countSoap : MethodName := ⟨RX0, "countSoap", "()I"⟩
abbrev cX0_addSoap : ByteArray := prog_2_method_19_code
def yX0_addSoap : MethodName := ⟨RX0, "addSoap", "(II)V"⟩
abbrev cX0_addDrain : ByteArray := prog_2_method_20_code
def yX0_addDrain : MethodName := ⟨RX0, "addDrain", "(IIII)V"⟩
abbrev cX0_addTap : ByteArray := prog_2_method_21_code
def yX0_addTap : MethodName := ⟨RX0, "addTap", "(III)V"⟩
abbrev cX0_launch : ByteArray := prog_2_method_22_code
def yX0_launch : MethodName := ⟨RX0, "launch", "(IIII)V"⟩
abbrev cX0_place : ByteArray := prog_2_method_23_code
def yX0_place : MethodName := ⟨RX0, "place", "(III)V"⟩
abbrev cX0_stopDrift : ByteArray := prog_2_method_24_code
def yX0_stopDrift : MethodName := ⟨RX0, "stopDrift", "(I)V"⟩
abbrev cX0_limitDrift : ByteArray := prog_2_method_25_code
def yX0_limitDrift : MethodName := ⟨RX0, "limitDrift", "(I)I"⟩
abbrev cX0_addDrift : ByteArray := prog_2_method_26_code
def yX0_addDrift : MethodName := ⟨RX0, "addDrift", "(III)V"⟩
abbrev cX0_endBoat : ByteArray := prog_2_method_27_code
def yX0_endBoat : MethodName := ⟨RX0, "endBoat", "(II)V"⟩
def RX1 : String := "BathBoats$BathReader"
def TX1 : u_T := fun k => match k with
  | 0 => ("BathBoats$BathReader", "tokens", "LBathBoats$Tokens;", true)
  | _ => ("BathBoats$BathReader", "bath", "LBathBoats$Bath;", true)
def tyX1 : Nat → FieldType := fun k => match k with
  | 0 => .object "BathBoats$Tokens"
  | _ => .object "BathBoats$Bath"
theorem nmX1 : ∀ a, a < 2 → ∀ b, b < 2 → a ≠ b → (TX1 a).2.1 ≠ (TX1 b).2.1 := by decide +kernel
theorem tyX1_ok : ∀ k, k < 2 → parseFieldDescriptor (TX1 k).2.2.1 = some (tyX1 k) := by decide +kernel
abbrev cX1_init : ByteArray := prog_3_method_1_code
def yX1_init : MethodName := ⟨RX1, "<init>", "(LBathBoats$Tokens;)V"⟩
abbrev cX1_read : ByteArray := prog_3_method_2_code
def yX1_read : MethodName := ⟨RX1, "read", "()V"⟩
abbrev cX1_readHead : ByteArray := prog_3_method_3_code
def yX1_readHead : MethodName := ⟨RX1, "readHead", "()V"⟩
abbrev cX1_readWind : ByteArray := prog_3_method_4_code
def yX1_readWind : MethodName := ⟨RX1, "readWind", "()I"⟩
abbrev cX1_readDrain : ByteArray := prog_3_method_5_code
def yX1_readDrain : MethodName := ⟨RX1, "readDrain", "()V"⟩
abbrev cX1_readTap : ByteArray := prog_3_method_6_code
def yX1_readTap : MethodName := ⟨RX1, "readTap", "()V"⟩
abbrev cX1_readBoat : ByteArray := prog_3_method_7_code
def yX1_readBoat : MethodName := ⟨RX1, "readBoat", "()V"⟩
abbrev cX1_readSoap : ByteArray := prog_3_method_8_code
def yX1_readSoap : MethodName := ⟨RX1, "readSoap", "()V"⟩
abbrev cX1_readKeyword : ByteArray := prog_3_method_9_code
def yX1_readKeyword : MethodName := ⟨RX1, "readKeyword", "(II)V"⟩
abbrev cX1_readRowForSource : ByteArray := prog_3_method_10_code
def yX1_readRowForSource : MethodName := ⟨RX1, "readRowForSource", "(I)I"⟩
abbrev cX1_readRowEnd : ByteArray := prog_3_method_11_code
def yX1_readRowEnd : MethodName := ⟨RX1, "readRowEnd", "(Z)V"⟩
def RX2 : String := "BathBoats$Flow"
def TX2 : u_T := fun k => match k with
  | 0 => ("BathBoats$Flow", "marks", "LBathBoats$Row;", true)
  | 1 => ("BathBoats$Flow", "x", "F", false)
  | _ => ("BathBoats$Flow", "y", "F", false)
def tyX2 : Nat → FieldType := fun k => match k with
  | 0 => .object "BathBoats$Row"
  | 1 => .float
  | _ => .float
theorem nmX2 : ∀ a, a < 3 → ∀ b, b < 3 → a ≠ b → (TX2 a).2.1 ≠ (TX2 b).2.1 := by decide +kernel
theorem tyX2_ok : ∀ k, k < 3 → parseFieldDescriptor (TX2 k).2.2.1 = some (tyX2 k) := by decide +kernel
abbrev cX2_init : ByteArray := prog_4_method_1_code
def yX2_init : MethodName := ⟨RX2, "<init>", "()V"⟩
abbrev cX2_measure : ByteArray := prog_4_method_2_code
def yX2_measure : MethodName := ⟨RX2, "measure", "(LBathBoats$Bath;II)V"⟩
abbrev cX2_contribute : ByteArray := prog_4_method_3_code
def yX2_contribute : MethodName := ⟨RX2, "contribute", "(III)V"⟩
abbrev cX2_forceIn : ByteArray := prog_4_method_4_code
def yX2_forceIn : MethodName := ⟨RX2, "forceIn", "(LBathBoats$Bath;II)F"⟩
abbrev cX2_countCalmArea : ByteArray := prog_4_method_5_code
def yX2_countCalmArea : MethodName := ⟨RX2, "countCalmArea", "(LBathBoats$Bath;II)I"⟩
abbrev cX2_reachMore : ByteArray := prog_4_method_6_code
def yX2_reachMore : MethodName := ⟨RX2, "reachMore", "(LBathBoats$Bath;)I"⟩
abbrev cX2_isBesideReached : ByteArray := prog_4_method_7_code
def yX2_isBesideReached : MethodName := ⟨RX2, "isBesideReached", "(LBathBoats$Bath;II)Z"⟩
def RX3 : String := "BathBoats$History"
def TX3 : u_T := fun k => match k with
  | 0 => ("BathBoats$History", "kept", "[LBathBoats$Bath;", true)
  | 1 => ("BathBoats$History", "next", "I", false)
  | _ => ("BathBoats$History", "count", "I", false)
def tyX3 : Nat → FieldType := fun k => match k with
  | 0 => .array (.object "BathBoats$Bath")
  | 1 => .int
  | _ => .int
theorem nmX3 : ∀ a, a < 3 → ∀ b, b < 3 → a ≠ b → (TX3 a).2.1 ≠ (TX3 b).2.1 := by decide +kernel
theorem tyX3_ok : ∀ k, k < 3 → parseFieldDescriptor (TX3 k).2.2.1 = some (tyX3 k) := by decide +kernel
abbrev cX3_init : ByteArray := prog_5_method_1_code
def yX3_init : MethodName := ⟨RX3, "<init>", "()V"⟩
abbrev cX3_slot : ByteArray := prog_5_method_2_code
def yX3_slot : MethodName := ⟨RX3, "slot", "(I)LBathBoats$Bath;"⟩
abbrev cX3_record : ByteArray := prog_5_method_3_code
def yX3_record : MethodName := ⟨RX3, "record", "(LBathBoats$Bath;)V"⟩
abbrev cX3_takeBack : ByteArray := prog_5_method_4_code
def yX3_takeBack : MethodName := ⟨RX3, "takeBack", "(LBathBoats$Bath;)Z"⟩
abbrev cX3_clear : ByteArray := prog_5_method_5_code
def yX3_clear : MethodName := ⟨RX3, "clear", "()V"⟩
def RX4 : String := "BathBoats$Physics"
def TX4 : u_T := fun k => match k with
  | 0 => ("BathBoats$Physics", "flow", "LBathBoats$Flow;", true)
  | _ => ("BathBoats$Physics", "gains", "LBathBoats$Row;", true)
def tyX4 : Nat → FieldType := fun k => match k with
  | 0 => .object "BathBoats$Flow"
  | _ => .object "BathBoats$Row"
theorem nmX4 : ∀ a, a < 2 → ∀ b, b < 2 → a ≠ b → (TX4 a).2.1 ≠ (TX4 b).2.1 := by decide +kernel
theorem tyX4_ok : ∀ k, k < 2 → parseFieldDescriptor (TX4 k).2.2.1 = some (tyX4 k) := by decide +kernel
abbrev cX4_init : ByteArray := prog_6_method_1_code
def yX4_init : MethodName := ⟨RX4, "<init>", "()V"⟩
abbrev cX4_passTurn : ByteArray := prog_6_method_2_code
def yX4_passTurn : MethodName := ⟨RX4, "passTurn", "(LBathBoats$Bath;)V"⟩
abbrev cX4_changeLevel : ByteArray := prog_6_method_3_code
def yX4_changeLevel : MethodName := ⟨RX4, "changeLevel", "(LBathBoats$Bath;)V"⟩
abbrev cX4_driftOn : ByteArray := prog_6_method_4_code
def yX4_driftOn : MethodName := ⟨RX4, "driftOn", "(LBathBoats$Bath;I)V"⟩
abbrev cX4_growth : ByteArray := prog_6_method_5_code
def yX4_growth : MethodName := ⟨RX4, "growth", "(LBathBoats$Bath;II)I"⟩
abbrev cX4_moveOn : ByteArray := prog_6_method_6_code
def yX4_moveOn : MethodName := ⟨RX4, "moveOn", "(LBathBoats$Bath;II)V"⟩
abbrev cX4_collide : ByteArray := prog_6_method_7_code
def yX4_collide : MethodName := ⟨RX4, "collide", "(LBathBoats$Bath;III)V"⟩
abbrev cX4_soak : ByteArray := prog_6_method_8_code
def yX4_soak : MethodName := ⟨RX4, "soak", "(LBathBoats$Bath;I)V"⟩
abbrev cX4_spreadSoap : ByteArray := prog_6_method_9_code
def yX4_spreadSoap : MethodName := ⟨RX4, "spreadSoap", "(LBathBoats$Bath;)V"⟩
abbrev cX4_give : ByteArray := prog_6_method_10_code
def yX4_give : MethodName := ⟨RX4, "give", "(II)V"⟩
def RX5 : String := "BathBoats$QueryReader"
def TX5 : u_T := fun k => match k with
  | 0 => ("BathBoats$QueryReader", "tokens", "LBathBoats$Tokens;", true)
  | _ => ("BathBoats$QueryReader", "bath", "LBathBoats$Bath;", true)
def tyX5 : Nat → FieldType := fun k => match k with
  | 0 => .object "BathBoats$Tokens"
  | _ => .object "BathBoats$Bath"
theorem nmX5 : ∀ a, a < 2 → ∀ b, b < 2 → a ≠ b → (TX5 a).2.1 ≠ (TX5 b).2.1 := by decide +kernel
theorem tyX5_ok : ∀ k, k < 2 → parseFieldDescriptor (TX5 k).2.2.1 = some (tyX5 k) := by decide +kernel
abbrev cX5_init : ByteArray := prog_7_method_1_code
def yX5_init : MethodName := ⟨RX5, "<init>", "(LBathBoats$Tokens;LBathBoats$Bath;)V"⟩
abbrev cX5_evaluate : ByteArray := prog_7_method_2_code
def yX5_evaluate : MethodName := ⟨RX5, "evaluate", "()I"⟩
abbrev cX5_firstOf : ByteArray := prog_7_method_3_code
def yX5_firstOf : MethodName := ⟨RX5, "firstOf", "(I)I"⟩
abbrev cX5_readTest : ByteArray := prog_7_method_4_code
def yX5_readTest : MethodName := ⟨RX5, "readTest", "(I)I"⟩
abbrev cX5_readFactor : ByteArray := prog_7_method_5_code
def yX5_readFactor : MethodName := ⟨RX5, "readFactor", "(I)I"⟩
abbrev cX5_takeOperand : ByteArray := prog_7_method_6_code
def yX5_takeOperand : MethodName := ⟨RX5, "takeOperand", "()I"⟩
abbrev cX5_takeComparison : ByteArray := prog_7_method_7_code
def yX5_takeComparison : MethodName := ⟨RX5, "takeComparison", "()I"⟩
abbrev cX5_compare : ByteArray := prog_7_method_8_code
def yX5_compare : MethodName := ⟨RX5, "compare", "(III)I"⟩
abbrev cX5_operandOf : ByteArray := prog_7_method_9_code
def yX5_operandOf : MethodName := ⟨RX5, "operandOf", "(II)I"⟩
def RX6 : String := "BathBoats$Row"
def TX6 : u_T := fun k => match k with
  | 0 => ("BathBoats$Row", "numbers", "[I", true)
  | _ => ("BathBoats$Row", "outside", "I", true)
def tyX6 : Nat → FieldType := fun k => match k with
  | 0 => .array .int
  | _ => .int
theorem nmX6 : ∀ a, a < 2 → ∀ b, b < 2 → a ≠ b → (TX6 a).2.1 ≠ (TX6 b).2.1 := by decide +kernel
theorem tyX6_ok : ∀ k, k < 2 → parseFieldDescriptor (TX6 k).2.2.1 = some (tyX6 k) := by decide +kernel
abbrev cX6_init : ByteArray := prog_8_method_1_code
def yX6_init : MethodName := ⟨RX6, "<init>", "(II)V"⟩
abbrev cX6_get : ByteArray := prog_8_method_2_code
def yX6_get : MethodName := ⟨RX6, "get", "(I)I"⟩
abbrev cX6_put : ByteArray := prog_8_method_3_code
def yX6_put : MethodName := ⟨RX6, "put", "(II)V"⟩
abbrev cX6_fill : ByteArray := prog_8_method_4_code
def yX6_fill : MethodName := ⟨RX6, "fill", "(I)V"⟩
abbrev cX6_copyFrom : ByteArray := prog_8_method_5_code
def yX6_copyFrom : MethodName := ⟨RX6, "copyFrom", "(LBathBoats$Row;)V"⟩
def RX7 : String := "BathBoats$Table"
def TX7 : u_T := fun k => match k with
  | 0 => ("BathBoats$Table", "numbers", "[I", true)
  | _ => ("BathBoats$Table", "width", "I", true)
def tyX7 : Nat → FieldType := fun k => match k with
  | 0 => .array .int
  | _ => .int
theorem nmX7 : ∀ a, a < 2 → ∀ b, b < 2 → a ≠ b → (TX7 a).2.1 ≠ (TX7 b).2.1 := by decide +kernel
theorem tyX7_ok : ∀ k, k < 2 → parseFieldDescriptor (TX7 k).2.2.1 = some (tyX7 k) := by decide +kernel
abbrev cX7_init : ByteArray := prog_9_method_1_code
def yX7_init : MethodName := ⟨RX7, "<init>", "(II)V"⟩
abbrev cX7_get : ByteArray := prog_9_method_2_code
def yX7_get : MethodName := ⟨RX7, "get", "(II)I"⟩
abbrev cX7_put : ByteArray := prog_9_method_3_code
def yX7_put : MethodName := ⟨RX7, "put", "(III)V"⟩
abbrev cX7_copyFrom : ByteArray := prog_9_method_4_code
def yX7_copyFrom : MethodName := ⟨RX7, "copyFrom", "(LBathBoats$Table;)V"⟩
def RX8 : String := "BathBoats$Tokens"
def TX8 : u_T := fun k => match k with
  | 0 => ("BathBoats$Tokens", "bytes", "LBathBoats$Row;", true)
  | 1 => ("BathBoats$Tokens", "fed", "I", false)
  | 2 => ("BathBoats$Tokens", "length", "I", false)
  | 3 => ("BathBoats$Tokens", "start", "I", false)
  | 4 => ("BathBoats$Tokens", "end", "I", false)
  | 5 => ("BathBoats$Tokens", "kind", "I", false)
  | 6 => ("BathBoats$Tokens", "value", "I", false)
  | 7 => ("BathBoats$Tokens", "error", "I", false)
  | _ => ("BathBoats$Tokens", "errorAt", "I", false)
def tyX8 : Nat → FieldType := fun k => match k with
  | 0 => .object "BathBoats$Row"
  | 1 => .int
  | 2 => .int
  | 3 => .int
  | 4 => .int
  | 5 => .int
  | 6 => .int
  | 7 => .int
  | _ => .int
theorem nmX8 : ∀ a, a < 9 → ∀ b, b < 9 → a ≠ b → (TX8 a).2.1 ≠ (TX8 b).2.1 := by decide +kernel
theorem tyX8_ok : ∀ k, k < 9 → parseFieldDescriptor (TX8 k).2.2.1 = some (tyX8 k) := by decide +kernel
abbrev cX8_init : ByteArray := prog_10_method_1_code
def yX8_init : MethodName := ⟨RX8, "<init>", "()V"⟩
abbrev cX8_append : ByteArray := prog_10_method_2_code
def yX8_append : MethodName := ⟨RX8, "append", "(I)V"⟩
abbrev cX8_open : ByteArray := prog_10_method_3_code
def yX8_open : MethodName := ⟨RX8, "open", "(I)V"⟩
abbrev cX8_advance : ByteArray := prog_10_method_4_code
def yX8_advance : MethodName := ⟨RX8, "advance", "()V"⟩
abbrev cX8_isBetween : ByteArray := prog_10_method_5_code
def yX8_isBetween : MethodName := ⟨RX8, "isBetween", "(III)Z"⟩
abbrev cX8_goesOn : ByteArray := prog_10_method_6_code
def yX8_goesOn : MethodName := ⟨RX8, "goesOn", "()Z"⟩
abbrev cX8_fail : ByteArray := prog_10_method_7_code
def yX8_fail : MethodName := ⟨RX8, "fail", "(I)V"⟩
abbrev cX8_isWord : ByteArray := prog_10_method_8_code
def yX8_isWord : MethodName := ⟨RX8, "isWord", "(Ljava/lang/String;)Z"⟩
abbrev cX8_isSign : ByteArray := prog_10_method_9_code
def yX8_isSign : MethodName := ⟨RX8, "isSign", "(I)Z"⟩
abbrev cX8_acceptWord : ByteArray := prog_10_method_10_code
def yX8_acceptWord : MethodName := ⟨RX8, "acceptWord", "(Ljava/lang/String;)Z"⟩
abbrev cX8_acceptSign : ByteArray := prog_10_method_11_code
def yX8_acceptSign : MethodName := ⟨RX8, "acceptSign", "(I)Z"⟩
abbrev cX8_expectSign : ByteArray := prog_10_method_12_code
def yX8_expectSign : MethodName := ⟨RX8, "expectSign", "(I)V"⟩
abbrev cX8_checkNumber : ByteArray := prog_10_method_13_code
def yX8_checkNumber : MethodName := ⟨RX8, "checkNumber", "(II)I"⟩
abbrev cX8_takeNumber : ByteArray := prog_10_method_14_code
def yX8_takeNumber : MethodName := ⟨RX8, "takeNumber", "(II)I"⟩
def RX9 : String := "BathBoats$Towing"
def TX9 : u_T := fun k => match k with
  | 0 => ("BathBoats$Towing", "costs", "LBathBoats$Row;", true)
  | _ => ("BathBoats$Towing", "distances", "LBathBoats$Row;", true)
def tyX9 : Nat → FieldType := fun k => match k with
  | 0 => .object "BathBoats$Row"
  | _ => .object "BathBoats$Row"
theorem nmX9 : ∀ a, a < 2 → ∀ b, b < 2 → a ≠ b → (TX9 a).2.1 ≠ (TX9 b).2.1 := by decide +kernel
theorem tyX9_ok : ∀ k, k < 2 → parseFieldDescriptor (TX9 k).2.2.1 = some (tyX9 k) := by decide +kernel
abbrev cX9_init : ByteArray := prog_11_method_1_code
def yX9_init : MethodName := ⟨RX9, "<init>", "()V"⟩
abbrev cX9_measure : ByteArray := prog_11_method_2_code
def yX9_measure : MethodName := ⟨RX9, "measure", "(LBathBoats$Bath;II)V"⟩
abbrev cX9_shorten : ByteArray := prog_11_method_3_code
def yX9_shorten : MethodName := ⟨RX9, "shorten", "(LBathBoats$Bath;)Z"⟩
abbrev cX9_through : ByteArray := prog_11_method_4_code
def yX9_through : MethodName := ⟨RX9, "through", "(I)I"⟩
abbrev cX9_distanceFrom : ByteArray := prog_11_method_5_code
def yX9_distanceFrom : MethodName := ⟨RX9, "distanceFrom", "(I)I"⟩
abbrev cX9_stepFrom : ByteArray := prog_11_method_6_code
def yX9_stepFrom : MethodName := ⟨RX9, "stepFrom", "(LBathBoats$Bath;I)I"⟩
abbrev cX9_nearer : ByteArray := prog_11_method_7_code
def yX9_nearer : MethodName := ⟨RX9, "nearer", "(II)I"⟩
def RX10 : String := "BathBoats"
def TX10 : u_T := fun k => match k with
  | 0 => ("BathBoats", "bath", "LBathBoats$Bath;", true)
  | 1 => ("BathBoats", "trial", "LBathBoats$Bath;", true)
  | 2 => ("BathBoats", "snapshot", "LBathBoats$Bath;", true)
  | 3 => ("BathBoats", "history", "LBathBoats$History;", true)
  | 4 => ("BathBoats", "physics", "LBathBoats$Physics;", true)
  | 5 => ("BathBoats", "towing", "LBathBoats$Towing;", true)
  | 6 => ("BathBoats", "tokens", "LBathBoats$Tokens;", true)
  | 7 => ("BathBoats", "bathReader", "LBathBoats$BathReader;", true)
  | 8 => ("BathBoats", "queryReader", "LBathBoats$QueryReader;", true)
  | 9 => ("BathBoats", "formatted", "LBathBoats$Row;", true)
  | 10 => ("BathBoats", "formattedLength", "I", false)
  | 11 => ("BathBoats", "errorAt", "I", false)
  | _ => ("BathBoats", "hasSnapshot", "Z", false)
def tyX10 : Nat → FieldType := fun k => match k with
  | 0 => .object "BathBoats$Bath"
  | 1 => .object "BathBoats$Bath"
  | 2 => .object "BathBoats$Bath"
  | 3 => .object "BathBoats$History"
  | 4 => .object "BathBoats$Physics"
  | 5 => .object "BathBoats$Towing"
  | 6 => .object "BathBoats$Tokens"
  | 7 => .object "BathBoats$BathReader"
  | 8 => .object "BathBoats$QueryReader"
  | 9 => .object "BathBoats$Row"
  | 10 => .int
  | 11 => .int
  | _ => .boolean
theorem nmX10 : ∀ a, a < 13 → ∀ b, b < 13 → a ≠ b → (TX10 a).2.1 ≠ (TX10 b).2.1 := by decide +kernel
theorem tyX10_ok : ∀ k, k < 13 → parseFieldDescriptor (TX10 k).2.2.1 = some (tyX10 k) := by decide +kernel
abbrev cX10_init : ByteArray := prog_1_method_1_code
def yX10_init : MethodName := ⟨RX10, "<init>", "()V"⟩
abbrev cX10_feed : ByteArray := prog_1_method_2_code
def yX10_feed : MethodName := ⟨RX10, "feed", "(IIIII)I"⟩
abbrev cX10_load : ByteArray := prog_1_method_3_code
def yX10_load : MethodName := ⟨RX10, "load", "(I)I"⟩
abbrev cX10_errorPosition : ByteArray := prog_1_method_4_code
def yX10_errorPosition : MethodName := ⟨RX10, "errorPosition", "()I"⟩
abbrev cX10_query : ByteArray := prog_1_method_5_code
def yX10_query : MethodName := ⟨RX10, "query", "(I)I"⟩
abbrev cX10_size : ByteArray := prog_1_method_6_code
def yX10_size : MethodName := ⟨RX10, "size", "(I)I"⟩
abbrev cX10_boat : ByteArray := prog_1_method_7_code
def yX10_boat : MethodName := ⟨RX10, "boat", "(II)I"⟩
abbrev cX10_drain : ByteArray := prog_1_method_8_code
def yX10_drain : MethodName := ⟨RX10, "drain", "(II)I"⟩
abbrev cX10_tap : ByteArray := prog_1_method_9_code
def yX10_tap : MethodName := ⟨RX10, "tap", "(II)I"⟩
abbrev cX10_soap : ByteArray := prog_1_method_10_code
def yX10_soap : MethodName := ⟨RX10, "soap", "(II)I"⟩
abbrev cX10_boatAt : ByteArray := prog_1_method_11_code
def yX10_boatAt : MethodName := ⟨RX10, "boatAt", "(II)I"⟩
abbrev cX10_afloat : ByteArray := prog_1_method_12_code
def yX10_afloat : MethodName := ⟨RX10, "afloat", "(I)I"⟩
abbrev cX10_ended : ByteArray := prog_1_method_13_code
def yX10_ended : MethodName := ⟨RX10, "ended", "(II)I"⟩
abbrev cX10_flow : ByteArray := prog_1_method_14_code
def yX10_flow : MethodName := ⟨RX10, "flow", "(IIZ)F"⟩
abbrev cX10_pushOn : ByteArray := prog_1_method_15_code
def yX10_pushOn : MethodName := ⟨RX10, "pushOn", "(IZ)I"⟩
abbrev cX10_strongest : ByteArray := prog_1_method_16_code
def yX10_strongest : MethodName := ⟨RX10, "strongest", "()I"⟩
abbrev cX10_calm : ByteArray := prog_1_method_17_code
def yX10_calm : MethodName := ⟨RX10, "calm", "(III)I"⟩
abbrev cX10_nearest : ByteArray := prog_1_method_18_code
def yX10_nearest : MethodName := ⟨RX10, "nearest", "(I)I"⟩
abbrev cX10_softest : ByteArray := prog_1_method_19_code
def yX10_softest : MethodName := ⟨RX10, "softest", "()I"⟩
abbrev cX10_driesOut : ByteArray := prog_1_method_20_code
def yX10_driesOut : MethodName := ⟨RX10, "driesOut", "(I)I"⟩
abbrev cX10_softness : ByteArray := prog_1_method_21_code
def yX10_softness : MethodName := ⟨RX10, "softness", "()D"⟩
abbrev cX10_afloatShare : ByteArray := prog_1_method_22_code
def yX10_afloatShare : MethodName := ⟨RX10, "afloatShare", "()F"⟩
abbrev cX10_format : ByteArray := prog_1_method_23_code
def yX10_format : MethodName := ⟨RX10, "format", "(I)I"⟩
abbrev cX10_formattedByte : ByteArray := prog_1_method_24_code
def yX10_formattedByte : MethodName := ⟨RX10, "formattedByte", "(I)I"⟩
abbrev cX10_tow : ByteArray := prog_1_method_25_code
def yX10_tow : MethodName := ⟨RX10, "tow", "(III)I"⟩
abbrev cX10_towStep : ByteArray := prog_1_method_26_code
def yX10_towStep : MethodName := ⟨RX10, "towStep", "(III)I"⟩
abbrev cX10_pull : ByteArray := prog_1_method_27_code
def yX10_pull : MethodName := ⟨RX10, "pull", "(IIII)I"⟩
abbrev cX10_endsIn : ByteArray := prog_1_method_28_code
def yX10_endsIn : MethodName := ⟨RX10, "endsIn", "(I)I"⟩
abbrev cX10_emptyIn : ByteArray := prog_1_method_29_code
def yX10_emptyIn : MethodName := ⟨RX10, "emptyIn", "()I"⟩
abbrev cX10_boatIn : ByteArray := prog_1_method_30_code
def yX10_boatIn : MethodName := ⟨RX10, "boatIn", "(III)I"⟩
abbrev cX10_afloatIn : ByteArray := prog_1_method_31_code
def yX10_afloatIn : MethodName := ⟨RX10, "afloatIn", "(I)I"⟩
abbrev cX10_rescue : ByteArray := prog_1_method_32_code
def yX10_rescue : MethodName := ⟨RX10, "rescue", "(II)I"⟩
abbrev cX10_refuge : ByteArray := prog_1_method_33_code
def yX10_refuge : MethodName := ⟨RX10, "refuge", "(I)I"⟩
abbrev cX10_plug : ByteArray := prog_1_method_34_code
def yX10_plug : MethodName := ⟨RX10, "plug", "()I"⟩
abbrev cX10_addBoat : ByteArray := prog_1_method_35_code
def yX10_addBoat : MethodName := ⟨RX10, "addBoat", "(IIII)I"⟩
abbrev cX10_carry : ByteArray := prog_1_method_36_code
def yX10_carry : MethodName := ⟨RX10, "carry", "(III)I"⟩
abbrev cX10_blow : ByteArray := prog_1_method_37_code
def yX10_blow : MethodName := ⟨RX10, "blow", "(III)I"⟩
abbrev cX10_dry : ByteArray := prog_1_method_38_code
def yX10_dry : MethodName := ⟨RX10, "dry", "(I)I"⟩
abbrev cX10_setDrain : ByteArray := prog_1_method_39_code
def yX10_setDrain : MethodName := ⟨RX10, "setDrain", "(II)I"⟩
abbrev cX10_setTap : ByteArray := prog_1_method_40_code
def yX10_setTap : MethodName := ⟨RX10, "setTap", "(II)I"⟩
abbrev cX10_dropSoap : ByteArray := prog_1_method_41_code
def yX10_dropSoap : MethodName := ⟨RX10, "dropSoap", "(III)I"⟩
abbrev cX10_wipe : ByteArray := prog_1_method_42_code
def yX10_wipe : MethodName := ⟨RX10, "wipe", "(II)I"⟩
abbrev cX10_setPush : ByteArray := prog_1_method_43_code
def yX10_setPush : MethodName := ⟨RX10, "setPush", "(I)I"⟩
abbrev cX10_setWind : ByteArray := prog_1_method_44_code
def yX10_setWind : MethodName := ⟨RX10, "setWind", "(II)I"⟩
abbrev cX10_setLevel : ByteArray := prog_1_method_45_code
def yX10_setLevel : MethodName := ⟨RX10, "setLevel", "(I)I"⟩
abbrev cX10_turn : ByteArray := prog_1_method_46_code
def yX10_turn : MethodName := ⟨RX10, "turn", "(I)I"⟩
abbrev cX10_undoCount : ByteArray := prog_1_method_47_code
def yX10_undoCount : MethodName := ⟨RX10, "undoCount", "()I"⟩
abbrev cX10_undo : ByteArray := prog_1_method_48_code
def yX10_undo : MethodName := ⟨RX10, "undo", "()I"⟩
abbrev cX10_saveSnapshot : ByteArray := prog_1_method_49_code
def yX10_saveSnapshot : MethodName := ⟨RX10, "saveSnapshot", "()V"⟩
abbrev cX10_restoreSnapshot : ByteArray := prog_1_method_50_code
def yX10_restoreSnapshot : MethodName := ⟨RX10, "restoreSnapshot", "()Z"⟩
abbrev cX10_requireBoat : ByteArray := prog_1_method_51_code
def yX10_requireBoat : MethodName := ⟨RX10, "requireBoat", "(I)V"⟩
abbrev cX10_requireCell : ByteArray := prog_1_method_52_code
def yX10_requireCell : MethodName := ⟨RX10, "requireCell", "(II)V"⟩
abbrev cX10_requireElement : ByteArray := prog_1_method_53_code
def yX10_requireElement : MethodName := ⟨RX10, "requireElement", "(II)V"⟩
abbrev cX10_requireArgument : ByteArray := prog_1_method_54_code
def yX10_requireArgument : MethodName := ⟨RX10, "requireArgument", "(III)V"⟩
abbrev cX10_passTurns : ByteArray := prog_1_method_55_code
def yX10_passTurns : MethodName := ⟨RX10, "passTurns", "(LBathBoats$Bath;I)V"⟩
abbrev cX10_lifeInTrial : ByteArray := prog_1_method_56_code
def yX10_lifeInTrial : MethodName := ⟨RX10, "lifeInTrial", "(I)I"⟩
abbrev cX10_letterOf : ByteArray := prog_1_method_57_code
def yX10_letterOf : MethodName := ⟨RX10, "letterOf", "(I)I"⟩
def RX11 : String := "BathBoatsModel"
def TX11 : u_T := fun k => match k with
  | 0 => ("BathBoatsModel", "now", "[I", true)
  | 1 => ("BathBoatsModel", "draft", "[I", true)
  | 2 => ("BathBoatsModel", "aside", "[I", true)
  | 3 => ("BathBoatsModel", "snapshot", "[I", true)
  | 4 => ("BathBoatsModel", "history", "[I", true)
  | 5 => ("BathBoatsModel", "spread", "[I", true)
  | 6 => ("BathBoatsModel", "costs", "[I", true)
  | 7 => ("BathBoatsModel", "area", "[I", true)
  | 8 => ("BathBoatsModel", "row", "[I", false)
  | 9 => ("BathBoatsModel", "undoCount", "I", false)
  | 10 => ("BathBoatsModel", "thrown", "I", false)
  | 11 => ("BathBoatsModel", "hasSnapshot", "Z", false)
  | 12 => ("BathBoatsModel", "formatted", "[I", true)
  | 13 => ("BathBoatsModel", "formattedLength", "I", false)
  | 14 => ("BathBoatsModel", "buffer", "[I", true)
  | 15 => ("BathBoatsModel", "bufferLength", "I", false)
  | 16 => ("BathBoatsModel", "limit", "I", false)
  | 17 => ("BathBoatsModel", "next", "I", false)
  | 18 => ("BathBoatsModel", "beginsAt", "I", false)
  | 19 => ("BathBoatsModel", "token", "I", false)
  | 20 => ("BathBoatsModel", "error", "I", false)
  | 21 => ("BathBoatsModel", "errorAt", "I", false)
  | 22 => ("BathBoatsModel", "errorPosition", "I", false)
  | 23 => ("BathBoatsModel", "nested", "I", false)
  | 24 => ("BathBoatsModel", "names", "[Ljava/lang/String;", true)
  | 25 => ("BathBoatsModel", "codes", "[I", true)
  | 26 => ("BathBoatsModel", "stack", "[I", true)
  | _ => ("BathBoatsModel", "codeCount", "I", false)
def tyX11 : Nat → FieldType := fun k => match k with
  | 0 => .array .int
  | 1 => .array .int
  | 2 => .array .int
  | 3 => .array .int
  | 4 => .array .int
  | 5 => .array .int
  | 6 => .array .int
  | 7 => .array .int
  | 8 => .array .int
  | 9 => .int
  | 10 => .int
  | 11 => .boolean
  | 12 => .array .int
  | 13 => .int
  | 14 => .array .int
  | 15 => .int
  | 16 => .int
  | 17 => .int
  | 18 => .int
  | 19 => .int
  | 20 => .int
  | 21 => .int
  | 22 => .int
  | 23 => .int
  | 24 => .array (.object "java/lang/String")
  | 25 => .array .int
  | 26 => .array .int
  | _ => .int
theorem nmX11 : ∀ a, a < 28 → ∀ b, b < 28 → a ≠ b → (TX11 a).2.1 ≠ (TX11 b).2.1 := by decide +kernel
theorem tyX11_ok : ∀ k, k < 28 → parseFieldDescriptor (TX11 k).2.2.1 = some (tyX11 k) := by decide +kernel
abbrev cX11_init : ByteArray := prog_13_method_1_code
def yX11_init : MethodName := ⟨RX11, "<init>", "()V"⟩
abbrev cX11_thrown : ByteArray := prog_13_method_2_code
def yX11_thrown : MethodName := ⟨RX11, "thrown", "()I"⟩
abbrev cX11_raise : ByteArray := prog_13_method_3_code
def yX11_raise : MethodName := ⟨RX11, "raise", "(I)I"⟩
abbrev cX11_inRange : ByteArray := prog_13_method_4_code
def yX11_inRange : MethodName := ⟨RX11, "inRange", "(III)Z"⟩
abbrev cX11_lacks : ByteArray := prog_13_method_5_code
def yX11_lacks : MethodName := ⟨RX11, "lacks", "(Z)Z"⟩
abbrev cX11_limited : ByteArray := prog_13_method_6_code
def yX11_limited : MethodName := ⟨RX11, "limited", "(II)I"⟩
abbrev cX11_abs : ByteArray := prog_13_method_7_code
def yX11_abs : MethodName := ⟨RX11, "abs", "(I)I"⟩
abbrev cX11_begin : ByteArray := prog_13_method_8_code
def yX11_begin : MethodName := ⟨RX11, "begin", "(II)V"⟩
abbrev cX11_cells : ByteArray := prog_13_method_9_code
def yX11_cells : MethodName := ⟨RX11, "cells", "()I"⟩
abbrev cX11_isCell : ByteArray := prog_13_method_10_code
def yX11_isCell : MethodName := ⟨RX11, "isCell", "(II)Z"⟩
abbrev cX11_cellAt : ByteArray := prog_13_method_11_code
def yX11_cellAt : MethodName := ⟨RX11, "cellAt", "(II)I"⟩
abbrev cX11_column : ByteArray := prog_13_method_12_code
def yX11_column : MethodName := ⟨RX11, "column", "(I)I"⟩
abbrev cX11_line : ByteArray := prog_13_method_13_code
def yX11_line : MethodName := ⟨RX11, "line", "(I)I"⟩
abbrev cX11_isBoat : ByteArray := prog_13_method_14_code
def yX11_isBoat : MethodName := ⟨RX11, "isBoat", "(I)Z"⟩
abbrev cX11_isDrain : ByteArray := prog_13_method_15_code
def yX11_isDrain : MethodName := ⟨RX11, "isDrain", "(I)Z"⟩
abbrev cX11_isTap : ByteArray := prog_13_method_16_code
def yX11_isTap : MethodName := ⟨RX11, "isTap", "(I)Z"⟩
abbrev cX11_of : ByteArray := prog_13_method_17_code
def yX11_of : MethodName := ⟨RX11, "of", "(II)I"⟩
abbrev cX11_lay : ByteArray := prog_13_method_18_code
def yX11_lay : MethodName := ⟨RX11, "lay", "(III)V"⟩
abbrev cX11_ofDrain : ByteArray := prog_13_method_19_code
def yX11_ofDrain : MethodName := ⟨RX11, "ofDrain", "(II)I"⟩
abbrev cX11_ofTap : ByteArray := prog_13_method_20_code
def yX11_ofTap : MethodName := ⟨RX11, "ofTap", "(II)I"⟩
abbrev cX11_isAfloat : ByteArray := prog_13_method_21_code
def yX11_isAfloat : MethodName := ⟨RX11, "isAfloat", "(I)Z"⟩
abbrev cX11_addDrain : ByteArray := prog_13_method_22_code
def yX11_addDrain : MethodName := ⟨RX11, "addDrain", "(III)V"⟩
abbrev cX11_addTap : ByteArray := prog_13_method_23_code
def yX11_addTap : MethodName := ⟨RX11, "addTap", "(II)V"⟩
abbrev cX11_newBoat : ByteArray := prog_13_method_24_code
def yX11_newBoat : MethodName := ⟨RX11, "newBoat", "(IIII)V"⟩
abbrev cX11_drainIn : ByteArray := prog_13_method_25_code
def yX11_drainIn : MethodName := ⟨RX11, "drainIn", "(I)I"⟩
abbrev cX11_tapIn : ByteArray := prog_13_method_26_code
def yX11_tapIn : MethodName := ⟨RX11, "tapIn", "(I)I"⟩
abbrev cX11_otherIn : ByteArray := prog_13_method_27_code
def yX11_otherIn : MethodName := ⟨RX11, "otherIn", "(II)I"⟩
abbrev cX11_works : ByteArray := prog_13_method_28_code
def yX11_works : MethodName := ⟨RX11, "works", "(I)Z"⟩
abbrev cX11_count : ByteArray := prog_13_method_29_code
def yX11_count : MethodName := ⟨RX11, "count", "(I)I"⟩
abbrev cX11_working : ByteArray := prog_13_method_30_code
def yX11_working : MethodName := ⟨RX11, "working", "()I"⟩
abbrev cX11_soapSum : ByteArray := prog_13_method_31_code
def yX11_soapSum : MethodName := ⟨RX11, "soapSum", "()I"⟩
abbrev cX11_soapIn : ByteArray := prog_13_method_32_code
def yX11_soapIn : MethodName := ⟨RX11, "soapIn", "(II)I"⟩
abbrev cX11_share : ByteArray := prog_13_method_33_code
def yX11_share : MethodName := ⟨RX11, "share", "(IIII)F"⟩
abbrev cX11_flowIn : ByteArray := prog_13_method_34_code
def yX11_flowIn : MethodName := ⟨RX11, "flowIn", "(II)F"⟩
abbrev cX11_force : ByteArray := prog_13_method_35_code
def yX11_force : MethodName := ⟨RX11, "force", "(I)F"⟩
abbrev cX11_growth : ByteArray := prog_13_method_36_code
def yX11_growth : MethodName := ⟨RX11, "growth", "(II)I"⟩
abbrev cX11_changeLevel : ByteArray := prog_13_method_37_code
def yX11_changeLevel : MethodName := ⟨RX11, "changeLevel", "()V"⟩
abbrev cX11_move : ByteArray := prog_13_method_38_code
def yX11_move : MethodName := ⟨RX11, "move", "(II)V"⟩
abbrev cX11_drift : ByteArray := prog_13_method_39_code
def yX11_drift : MethodName := ⟨RX11, "drift", "(I)V"⟩
abbrev cX11_end : ByteArray := prog_13_method_40_code
def yX11_end : MethodName := ⟨RX11, "end", "(II)V"⟩
abbrev cX11_soak : ByteArray := prog_13_method_41_code
def yX11_soak : MethodName := ⟨RX11, "soak", "(I)V"⟩
abbrev cX11_spreadsFrom : ByteArray := prog_13_method_42_code
def yX11_spreadsFrom : MethodName := ⟨RX11, "spreadsFrom", "(II)I"⟩
abbrev cX11_spreadSoap : ByteArray := prog_13_method_43_code
def yX11_spreadSoap : MethodName := ⟨RX11, "spreadSoap", "()V"⟩
abbrev cX11_pass : ByteArray := prog_13_method_44_code
def yX11_pass : MethodName := ⟨RX11, "pass", "()V"⟩
abbrev cX11_leave : ByteArray := prog_13_method_45_code
def yX11_leave : MethodName := ⟨RX11, "leave", "()V"⟩
abbrev cX11_comeBack : ByteArray := prog_13_method_46_code
def yX11_comeBack : MethodName := ⟨RX11, "comeBack", "()V"⟩
abbrev cX11_pass_ : ByteArray := prog_13_method_47_code
def yX11_pass_ : MethodName := ⟨RX11, "pass", "(I)V"⟩
abbrev cX11_life : ByteArray := prog_13_method_48_code
def yX11_life : MethodName := ⟨RX11, "life", "(I)I"⟩
abbrev cX11_lifeNow : ByteArray := prog_13_method_49_code
def yX11_lifeNow : MethodName := ⟨RX11, "lifeNow", "(I)I"⟩
abbrev cX11_size : ByteArray := prog_13_method_50_code
def yX11_size : MethodName := ⟨RX11, "size", "(I)I"⟩
abbrev cX11_number : ByteArray := prog_13_method_51_code
def yX11_number : MethodName := ⟨RX11, "number", "(II)I"⟩
abbrev cX11_boat : ByteArray := prog_13_method_52_code
def yX11_boat : MethodName := ⟨RX11, "boat", "(II)I"⟩
abbrev cX11_drain : ByteArray := prog_13_method_53_code
def yX11_drain : MethodName := ⟨RX11, "drain", "(II)I"⟩
abbrev cX11_tap : ByteArray := prog_13_method_54_code
def yX11_tap : MethodName := ⟨RX11, "tap", "(II)I"⟩
abbrev cX11_soap : ByteArray := prog_13_method_55_code
def yX11_soap : MethodName := ⟨RX11, "soap", "(II)I"⟩
abbrev cX11_boatAt : ByteArray := prog_13_method_56_code
def yX11_boatAt : MethodName := ⟨RX11, "boatAt", "(II)I"⟩
abbrev cX11_afloat : ByteArray := prog_13_method_57_code
def yX11_afloat : MethodName := ⟨RX11, "afloat", "(I)I"⟩
abbrev cX11_endedAhead : ByteArray := prog_13_method_58_code
def yX11_endedAhead : MethodName := ⟨RX11, "endedAhead", "(I)I"⟩
abbrev cX11_ended : ByteArray := prog_13_method_59_code
def yX11_ended : MethodName := ⟨RX11, "ended", "(II)I"⟩
abbrev cX11_flow : ByteArray := prog_13_method_60_code
def yX11_flow : MethodName := ⟨RX11, "flow", "(IIZ)F"⟩
abbrev cX11_pushOn : ByteArray := prog_13_method_61_code
def yX11_pushOn : MethodName := ⟨RX11, "pushOn", "(IZ)I"⟩
abbrev cX11_strongest : ByteArray := prog_13_method_62_code
def yX11_strongest : MethodName := ⟨RX11, "strongest", "()I"⟩
abbrev cX11_calm : ByteArray := prog_13_method_64_code
def yX11_calm : MethodName := ⟨RX11, "calm", "(III)I"⟩
abbrev cX11_touches : ByteArray := prog_13_method_65_code
def yX11_touches : MethodName := ⟨RX11, "touches", "(I)Z"⟩
abbrev cX11_nearest : ByteArray := prog_13_method_66_code
def yX11_nearest : MethodName := ⟨RX11, "nearest", "(I)I"⟩
abbrev cX11_rest : ByteArray := prog_13_method_67_code
def yX11_rest : MethodName := ⟨RX11, "rest", "(I)I"⟩
abbrev cX11_softest : ByteArray := prog_13_method_68_code
def yX11_softest : MethodName := ⟨RX11, "softest", "()I"⟩
abbrev cX11_driesOut : ByteArray := prog_13_method_69_code
def yX11_driesOut : MethodName := ⟨RX11, "driesOut", "(I)I"⟩
abbrev cX11_isFree : ByteArray := prog_13_method_70_code
def yX11_isFree : MethodName := ⟨RX11, "isFree", "(II)Z"⟩
abbrev cX11_step : ByteArray := prog_13_method_71_code
def yX11_step : MethodName := ⟨RX11, "step", "(II)I"⟩
abbrev cX11_measure : ByteArray := prog_13_method_72_code
def yX11_measure : MethodName := ⟨RX11, "measure", "(II)V"⟩
abbrev cX11_neighbour : ByteArray := prog_13_method_73_code
def yX11_neighbour : MethodName := ⟨RX11, "neighbour", "(II)I"⟩
abbrev cX11_distance : ByteArray := prog_13_method_74_code
def yX11_distance : MethodName := ⟨RX11, "distance", "(II)I"⟩
abbrev cX11_firstStep : ByteArray := prog_13_method_75_code
def yX11_firstStep : MethodName := ⟨RX11, "firstStep", "(II)I"⟩
abbrev cX11_tow : ByteArray := prog_13_method_76_code
def yX11_tow : MethodName := ⟨RX11, "tow", "(III)I"⟩
abbrev cX11_towStep : ByteArray := prog_13_method_77_code
def yX11_towStep : MethodName := ⟨RX11, "towStep", "(III)I"⟩
abbrev cX11_endsIn : ByteArray := prog_13_method_78_code
def yX11_endsIn : MethodName := ⟨RX11, "endsIn", "(I)I"⟩
abbrev cX11_emptyIn : ByteArray := prog_13_method_79_code
def yX11_emptyIn : MethodName := ⟨RX11, "emptyIn", "()I"⟩
abbrev cX11_boatIn : ByteArray := prog_13_method_80_code
def yX11_boatIn : MethodName := ⟨RX11, "boatIn", "(III)I"⟩
abbrev cX11_afloatIn : ByteArray := prog_13_method_81_code
def yX11_afloatIn : MethodName := ⟨RX11, "afloatIn", "(I)I"⟩
abbrev cX11_rescue : ByteArray := prog_13_method_82_code
def yX11_rescue : MethodName := ⟨RX11, "rescue", "(II)I"⟩
abbrev cX11_refuge : ByteArray := prog_13_method_83_code
def yX11_refuge : MethodName := ⟨RX11, "refuge", "(I)I"⟩
abbrev cX11_plug : ByteArray := prog_13_method_84_code
def yX11_plug : MethodName := ⟨RX11, "plug", "()I"⟩
abbrev cX11_softness : ByteArray := prog_13_method_85_code
def yX11_softness : MethodName := ⟨RX11, "softness", "()D"⟩
abbrev cX11_afloatShare : ByteArray := prog_13_method_86_code
def yX11_afloatShare : MethodName := ⟨RX11, "afloatShare", "()F"⟩
abbrev cX11_put : ByteArray := prog_13_method_87_code
def yX11_put : MethodName := ⟨RX11, "put", "(II)V"⟩
abbrev cX11_addSoap : ByteArray := prog_13_method_88_code
def yX11_addSoap : MethodName := ⟨RX11, "addSoap", "(II)V"⟩
abbrev cX11_addBoat : ByteArray := prog_13_method_89_code
def yX11_addBoat : MethodName := ⟨RX11, "addBoat", "(IIII)I"⟩
abbrev cX11_carry : ByteArray := prog_13_method_90_code
def yX11_carry : MethodName := ⟨RX11, "carry", "(III)I"⟩
abbrev cX11_pull : ByteArray := prog_13_method_91_code
def yX11_pull : MethodName := ⟨RX11, "pull", "(IIII)I"⟩
abbrev cX11_blow : ByteArray := prog_13_method_92_code
def yX11_blow : MethodName := ⟨RX11, "blow", "(III)I"⟩
abbrev cX11_dry : ByteArray := prog_13_method_93_code
def yX11_dry : MethodName := ⟨RX11, "dry", "(I)I"⟩
abbrev cX11_set : ByteArray := prog_13_method_94_code
def yX11_set : MethodName := ⟨RX11, "set", "(II)I"⟩
abbrev cX11_setDrain : ByteArray := prog_13_method_95_code
def yX11_setDrain : MethodName := ⟨RX11, "setDrain", "(II)I"⟩
abbrev cX11_setTap : ByteArray := prog_13_method_96_code
def yX11_setTap : MethodName := ⟨RX11, "setTap", "(II)I"⟩
abbrev cX11_dropSoap : ByteArray := prog_13_method_97_code
def yX11_dropSoap : MethodName := ⟨RX11, "dropSoap", "(III)I"⟩
abbrev cX11_wipe : ByteArray := prog_13_method_98_code
def yX11_wipe : MethodName := ⟨RX11, "wipe", "(II)I"⟩
abbrev cX11_setPush : ByteArray := prog_13_method_99_code
def yX11_setPush : MethodName := ⟨RX11, "setPush", "(I)I"⟩
abbrev cX11_setWind : ByteArray := prog_13_method_100_code
def yX11_setWind : MethodName := ⟨RX11, "setWind", "(II)I"⟩
abbrev cX11_setLevel : ByteArray := prog_13_method_101_code
def yX11_setLevel : MethodName := ⟨RX11, "setLevel", "(I)I"⟩
abbrev cX11_turn : ByteArray := prog_13_method_102_code
def yX11_turn : MethodName := ⟨RX11, "turn", "(I)I"⟩
abbrev cX11_sign : ByteArray := prog_13_method_103_code
def yX11_sign : MethodName := ⟨RX11, "sign", "(I)I"⟩
abbrev cX11_format : ByteArray := prog_13_method_104_code
def yX11_format : MethodName := ⟨RX11, "format", "(I)I"⟩
abbrev cX11_formattedByte : ByteArray := prog_13_method_105_code
def yX11_formattedByte : MethodName := ⟨RX11, "formattedByte", "(I)I"⟩
abbrev cX11_copy : ByteArray := prog_13_method_106_code
def yX11_copy : MethodName := ⟨RX11, "copy", "([II[II)V"⟩
abbrev cX11_record : ByteArray := prog_13_method_107_code
def yX11_record : MethodName := ⟨RX11, "record", "()V"⟩
abbrev cX11_undoCount : ByteArray := prog_13_method_108_code
def yX11_undoCount : MethodName := ⟨RX11, "undoCount", "()I"⟩
abbrev cX11_undo : ByteArray := prog_13_method_109_code
def yX11_undo : MethodName := ⟨RX11, "undo", "()I"⟩
abbrev cX11_saveSnapshot : ByteArray := prog_13_method_110_code
def yX11_saveSnapshot : MethodName := ⟨RX11, "saveSnapshot", "()V"⟩
abbrev cX11_restoreSnapshot : ByteArray := prog_13_method_111_code
def yX11_restoreSnapshot : MethodName := ⟨RX11, "restoreSnapshot", "()Z"⟩
abbrev cX11_feed : ByteArray := prog_13_method_112_code
def yX11_feed : MethodName := ⟨RX11, "feed", "(IIIII)I"⟩
abbrev cX11_errorPosition : ByteArray := prog_13_method_113_code
def yX11_errorPosition : MethodName := ⟨RX11, "errorPosition", "()I"⟩
abbrev cX11_byteAt : ByteArray := prog_13_method_114_code
def yX11_byteAt : MethodName := ⟨RX11, "byteAt", "(I)I"⟩
abbrev cX11_isLetter : ByteArray := prog_13_method_115_code
def yX11_isLetter : MethodName := ⟨RX11, "isLetter", "(I)Z"⟩
abbrev cX11_isDigit : ByteArray := prog_13_method_116_code
def yX11_isDigit : MethodName := ⟨RX11, "isDigit", "(I)Z"⟩
abbrev cX11_scan : ByteArray := prog_13_method_117_code
def yX11_scan : MethodName := ⟨RX11, "scan", "()V"⟩
abbrev cX11_startText : ByteArray := prog_13_method_118_code
def yX11_startText : MethodName := ⟨RX11, "startText", "(I)V"⟩
abbrev cX11_finish : ByteArray := prog_13_method_119_code
def yX11_finish : MethodName := ⟨RX11, "finish", "()I"⟩
abbrev cX11_check : ByteArray := prog_13_method_120_code
def yX11_check : MethodName := ⟨RX11, "check", "(ZI)V"⟩
abbrev cX11_advance : ByteArray := prog_13_method_121_code
def yX11_advance : MethodName := ⟨RX11, "advance", "()V"⟩
abbrev cX11_isSymbol : ByteArray := prog_13_method_122_code
def yX11_isSymbol : MethodName := ⟨RX11, "isSymbol", "(I)Z"⟩
abbrev cX11_isWord : ByteArray := prog_13_method_123_code
def yX11_isWord : MethodName := ⟨RX11, "isWord", "(Ljava/lang/String;)Z"⟩
abbrev cX11_accept : ByteArray := prog_13_method_124_code
def yX11_accept : MethodName := ⟨RX11, "accept", "(Ljava/lang/String;)Z"⟩
abbrev cX11_expect : ByteArray := prog_13_method_125_code
def yX11_expect : MethodName := ⟨RX11, "expect", "(I)V"⟩
abbrev cX11_value : ByteArray := prog_13_method_126_code
def yX11_value : MethodName := ⟨RX11, "value", "()I"⟩
abbrev cX11_look : ByteArray := prog_13_method_127_code
def yX11_look : MethodName := ⟨RX11, "look", "(II)I"⟩
abbrev cX11_readNumber : ByteArray := prog_13_method_128_code
def yX11_readNumber : MethodName := ⟨RX11, "readNumber", "(II)I"⟩
abbrev cX11_readWind : ByteArray := prog_13_method_129_code
def yX11_readWind : MethodName := ⟨RX11, "readWind", "()I"⟩
abbrev cX11_readHead : ByteArray := prog_13_method_130_code
def yX11_readHead : MethodName := ⟨RX11, "readHead", "()V"⟩
abbrev cX11_readCell : ByteArray := prog_13_method_131_code
def yX11_readCell : MethodName := ⟨RX11, "readCell", "(I)I"⟩
abbrev cX11_readDrain : ByteArray := prog_13_method_132_code
def yX11_readDrain : MethodName := ⟨RX11, "readDrain", "()V"⟩
abbrev cX11_readTap : ByteArray := prog_13_method_133_code
def yX11_readTap : MethodName := ⟨RX11, "readTap", "()V"⟩
abbrev cX11_readBoat : ByteArray := prog_13_method_134_code
def yX11_readBoat : MethodName := ⟨RX11, "readBoat", "()V"⟩
abbrev cX11_readSoap : ByteArray := prog_13_method_135_code
def yX11_readSoap : MethodName := ⟨RX11, "readSoap", "()V"⟩
abbrev cX11_readAll : ByteArray := prog_13_method_136_code
def yX11_readAll : MethodName := ⟨RX11, "readAll", "()V"⟩
abbrev cX11_load : ByteArray := prog_13_method_137_code
def yX11_load : MethodName := ⟨RX11, "load", "(I)I"⟩
abbrev cX11_property : ByteArray := prog_13_method_138_code
def yX11_property : MethodName := ⟨RX11, "property", "(II)I"⟩
abbrev cX11_emit : ByteArray := prog_13_method_139_code
def yX11_emit : MethodName := ⟨RX11, "emit", "(I)V"⟩
abbrev cX11_enter : ByteArray := prog_13_method_140_code
def yX11_enter : MethodName := ⟨RX11, "enter", "()V"⟩
abbrev cX11_compileValue : ByteArray := prog_13_method_141_code
def yX11_compileValue : MethodName := ⟨RX11, "compileValue", "()V"⟩
abbrev cX11_compileComparison : ByteArray := prog_13_method_142_code
def yX11_compileComparison : MethodName := ⟨RX11, "compileComparison", "()V"⟩
abbrev cX11_compileFactor : ByteArray := prog_13_method_143_code
def yX11_compileFactor : MethodName := ⟨RX11, "compileFactor", "()V"⟩
abbrev cX11_compileConjunction : ByteArray := prog_13_method_144_code
def yX11_compileConjunction : MethodName := ⟨RX11, "compileConjunction", "()V"⟩
abbrev cX11_compileTest : ByteArray := prog_13_method_145_code
def yX11_compileTest : MethodName := ⟨RX11, "compileTest", "()V"⟩
abbrev cX11_operate : ByteArray := prog_13_method_146_code
def yX11_operate : MethodName := ⟨RX11, "operate", "(III)I"⟩
abbrev cX11_holdsFor : ByteArray := prog_13_method_147_code
def yX11_holdsFor : MethodName := ⟨RX11, "holdsFor", "(I)Z"⟩
abbrev cX11_query : ByteArray := prog_13_method_148_code
def yX11_query : MethodName := ⟨RX11, "query", "(I)I"⟩
def RJ6 : String := "java/lang/Integer"
abbrev cJ6_bitCount_0f7a4 : ByteArray := prog_19_method_49_code
def yJ6_bitCount_0f7a4 : MethodName := ⟨RJ6, "bitCount", "(I)I"⟩
def RJ9 : String := "java/lang/Math"
abbrev cJ9_abs_0f7a4 : ByteArray := prog_20_method_59_code
def yJ9_abs_0f7a4 : MethodName := ⟨RJ9, "abs", "(I)I"⟩
abbrev cJ9_max_7cf53 : ByteArray := prog_20_method_65_code
def yJ9_max_7cf53 : MethodName := ⟨RJ9, "max", "(II)I"⟩
abbrev cJ9_min_7cf53 : ByteArray := prog_20_method_69_code
def yJ9_min_7cf53 : MethodName := ⟨RJ9, "min", "(II)I"⟩
def RJ0 : String := "java/lang/String"
abbrev cJ0_length_8abf5 : ByteArray := prog_22_method_54_code
def yJ0_length_8abf5 : MethodName := ⟨RJ0, "length", "()I"⟩
abbrev cJ0_charAt_5068e : ByteArray := prog_22_method_56_code
def yJ0_charAt_5068e : MethodName := ⟨RJ0, "charAt", "(I)C"⟩
abbrev cJ0_coder_7d493 : ByteArray := prog_22_method_152_code
def yJ0_coder_7d493 : MethodName := ⟨RJ0, "coder", "()B"⟩
abbrev cJ0_isLatin1_aae02 : ByteArray := prog_22_method_154_code
def yJ0_isLatin1_aae02 : MethodName := ⟨RJ0, "isLatin1", "()Z"⟩
abbrev cJ0_checkIndex_df160 : ByteArray := prog_22_method_155_code
def yJ0_checkIndex_df160 : MethodName := ⟨RJ0, "checkIndex", "(II)V"⟩
def RJ1 : String := "java/lang/StringLatin1"
abbrev cJ1_charAt_3b067 : ByteArray := prog_23_method_2_code
def yJ1_charAt_3b067 : MethodName := ⟨RJ1, "charAt", "([BI)C"⟩
def RJ2 : String := "java/lang/StringUTF16"
abbrev cJ2_getChar_3b067 : ByteArray := prog_24_method_5_code
def yJ2_getChar_3b067 : MethodName := ⟨RJ2, "getChar", "([BI)C"⟩
abbrev cJ2_length_9d52b : ByteArray := prog_24_method_6_code
def yJ2_length_9d52b : MethodName := ⟨RJ2, "length", "([B)I"⟩
abbrev cJ2_charAt_3b067 : ByteArray := prog_24_method_83_code
def yJ2_charAt_3b067 : MethodName := ⟨RJ2, "charAt", "([BI)C"⟩
abbrev cJ2_checkIndex_2214a : ByteArray := prog_24_method_91_code
def yJ2_checkIndex_2214a : MethodName := ⟨RJ2, "checkIndex", "(I[B)V"⟩
def RJ10 : String := "java/lang/System"
def RJ3 : String := "jdk/internal/util/Preconditions"
abbrev cJ3_checkIndex_8e157 : ByteArray := prog_30_method_11_code
def yJ3_checkIndex_8e157 : MethodName := ⟨RJ3, "checkIndex", "(IILjava/util/function/BiFunction;)I"⟩
def RL : String := "BathBoatsLaw"
abbrev cL_load : ByteArray := method_3_code
def yL_load : MethodName := ⟨RL, "load", "(LBathBoats;I[J)I"⟩
abbrev cL_size : ByteArray := method_4_code
def yL_size : MethodName := ⟨RL, "size", "(LBathBoats;I[J)I"⟩
abbrev cL_boat : ByteArray := method_5_code
def yL_boat : MethodName := ⟨RL, "boat", "(LBathBoats;II[J)I"⟩
abbrev cL_drain : ByteArray := method_6_code
def yL_drain : MethodName := ⟨RL, "drain", "(LBathBoats;II[J)I"⟩
abbrev cL_tap : ByteArray := method_7_code
def yL_tap : MethodName := ⟨RL, "tap", "(LBathBoats;II[J)I"⟩
abbrev cL_soap : ByteArray := method_8_code
def yL_soap : MethodName := ⟨RL, "soap", "(LBathBoats;II[J)I"⟩
abbrev cL_boatAt : ByteArray := method_9_code
def yL_boatAt : MethodName := ⟨RL, "boatAt", "(LBathBoats;II[J)I"⟩
abbrev cL_afloat : ByteArray := method_10_code
def yL_afloat : MethodName := ⟨RL, "afloat", "(LBathBoats;I[J)I"⟩
abbrev cL_ended : ByteArray := method_11_code
def yL_ended : MethodName := ⟨RL, "ended", "(LBathBoats;II[J)I"⟩
abbrev cL_flow : ByteArray := method_12_code
def yL_flow : MethodName := ⟨RL, "flow", "(LBathBoats;IIZ[D)I"⟩
abbrev cL_pushOn : ByteArray := method_13_code
def yL_pushOn : MethodName := ⟨RL, "pushOn", "(LBathBoats;IZ[J)I"⟩
abbrev cL_calm : ByteArray := method_14_code
def yL_calm : MethodName := ⟨RL, "calm", "(LBathBoats;III[J)I"⟩
abbrev cL_nearest : ByteArray := method_15_code
def yL_nearest : MethodName := ⟨RL, "nearest", "(LBathBoats;I[J)I"⟩
abbrev cL_driesOut : ByteArray := method_16_code
def yL_driesOut : MethodName := ⟨RL, "driesOut", "(LBathBoats;I[J)I"⟩
abbrev cL_tow : ByteArray := method_17_code
def yL_tow : MethodName := ⟨RL, "tow", "(LBathBoats;III[J)I"⟩
abbrev cL_towStep : ByteArray := method_18_code
def yL_towStep : MethodName := ⟨RL, "towStep", "(LBathBoats;III[J)I"⟩
abbrev cL_endsIn : ByteArray := method_19_code
def yL_endsIn : MethodName := ⟨RL, "endsIn", "(LBathBoats;I[J)I"⟩
abbrev cL_boatIn : ByteArray := method_20_code
def yL_boatIn : MethodName := ⟨RL, "boatIn", "(LBathBoats;III[J)I"⟩
abbrev cL_afloatIn : ByteArray := method_21_code
def yL_afloatIn : MethodName := ⟨RL, "afloatIn", "(LBathBoats;I[J)I"⟩
abbrev cL_rescue : ByteArray := method_22_code
def yL_rescue : MethodName := ⟨RL, "rescue", "(LBathBoats;II[J)I"⟩
abbrev cL_refuge : ByteArray := method_23_code
def yL_refuge : MethodName := ⟨RL, "refuge", "(LBathBoats;I[J)I"⟩
abbrev cL_addBoat : ByteArray := method_24_code
def yL_addBoat : MethodName := ⟨RL, "addBoat", "(LBathBoats;IIII[J)I"⟩
abbrev cL_carry : ByteArray := method_25_code
def yL_carry : MethodName := ⟨RL, "carry", "(LBathBoats;III[J)I"⟩
abbrev cL_pull : ByteArray := method_26_code
def yL_pull : MethodName := ⟨RL, "pull", "(LBathBoats;IIII[J)I"⟩
abbrev cL_blow : ByteArray := method_27_code
def yL_blow : MethodName := ⟨RL, "blow", "(LBathBoats;III[J)I"⟩
abbrev cL_dry : ByteArray := method_28_code
def yL_dry : MethodName := ⟨RL, "dry", "(LBathBoats;I[J)I"⟩
abbrev cL_setDrain : ByteArray := method_29_code
def yL_setDrain : MethodName := ⟨RL, "setDrain", "(LBathBoats;II[J)I"⟩
abbrev cL_setTap : ByteArray := method_30_code
def yL_setTap : MethodName := ⟨RL, "setTap", "(LBathBoats;II[J)I"⟩
abbrev cL_dropSoap : ByteArray := method_31_code
def yL_dropSoap : MethodName := ⟨RL, "dropSoap", "(LBathBoats;III[J)I"⟩
abbrev cL_wipe : ByteArray := method_32_code
def yL_wipe : MethodName := ⟨RL, "wipe", "(LBathBoats;II[J)I"⟩
abbrev cL_setPush : ByteArray := method_33_code
def yL_setPush : MethodName := ⟨RL, "setPush", "(LBathBoats;I[J)I"⟩
abbrev cL_setWind : ByteArray := method_34_code
def yL_setWind : MethodName := ⟨RL, "setWind", "(LBathBoats;II[J)I"⟩
abbrev cL_setLevel : ByteArray := method_35_code
def yL_setLevel : MethodName := ⟨RL, "setLevel", "(LBathBoats;I[J)I"⟩
abbrev cL_turn : ByteArray := method_36_code
def yL_turn : MethodName := ⟨RL, "turn", "(LBathBoats;I[J)I"⟩
abbrev cL_format : ByteArray := method_37_code
def yL_format : MethodName := ⟨RL, "format", "(LBathBoats;I[J)I"⟩
abbrev cL_query : ByteArray := method_38_code
def yL_query : MethodName := ⟨RL, "query", "(LBathBoats;I[J)I"⟩
abbrev cL_law : ByteArray := code
def yL_law : MethodName := ⟨RL, "law", "([I)Z"⟩
abbrev vwCl : List vw_C := [(RX0, TX0, 17), (RX1, TX1, 2), (RX2, TX2, 3), (RX3, TX3, 3), (RX4, TX4, 2), (RX5, TX5, 2), (RX6, TX6, 2), (RX7, TX7, 2), (RX8, TX8, 9), (RX9, TX9, 2), (RX10, TX10, 13), (RX11, TX11, 28)]
end
section
theorem dX0_init_0 : decode cX0_init 0 = .ok (.aload_n 0, 1) := by decide +kernel
theorem dX0_init_1 : decode cX0_init 1 = .ok (.invokespecial 3, 3) := by decide +kernel
theorem dX0_init_4 : decode cX0_init 4 = .ok (.aload_n 0, 1) := by decide +kernel
theorem dX0_init_5 : decode cX0_init 5 = .ok (.new 9, 3) := by decide +kernel
theorem dX0_init_8 : decode cX0_init 8 = .ok (.dup, 1) := by decide +kernel
theorem dX0_init_9 : decode cX0_init 9 = .ok (.bipush 12, 2) := by decide +kernel
theorem dX0_init_11 : decode cX0_init 11 = .ok (.bipush 11, 2) := by decide +kernel
theorem dX0_init_13 : decode cX0_init 13 = .ok (.invokespecial 13, 3) := by decide +kernel
theorem dX0_init_16 : decode cX0_init 16 = .ok (.putfield 16, 3) := by decide +kernel
theorem dX0_init_19 : decode cX0_init 19 = .ok (.aload_n 0, 1) := by decide +kernel
theorem dX0_init_20 : decode cX0_init 20 = .ok (.new 9, 3) := by decide +kernel
theorem dX0_init_23 : decode cX0_init 23 = .ok (.dup, 1) := by decide +kernel
theorem dX0_init_24 : decode cX0_init 24 = .ok (.iconst 5, 1) := by decide +kernel
theorem dX0_init_25 : decode cX0_init 25 = .ok (.bipush 6, 2) := by decide +kernel
theorem dX0_init_27 : decode cX0_init 27 = .ok (.invokespecial 13, 3) := by decide +kernel
theorem dX0_init_30 : decode cX0_init 30 = .ok (.putfield 20, 3) := by decide +kernel
theorem dX0_init_33 : decode cX0_init 33 = .ok (.aload_n 0, 1) := by decide +kernel
theorem dX0_init_34 : decode cX0_init 34 = .ok (.new 9, 3) := by decide +kernel
theorem dX0_init_37 : decode cX0_init 37 = .ok (.dup, 1) := by decide +kernel
theorem dX0_init_38 : decode cX0_init 38 = .ok (.iconst 5, 1) := by decide +kernel
theorem dX0_init_39 : decode cX0_init 39 = .ok (.iconst 3, 1) := by decide +kernel
theorem dX0_init_40 : decode cX0_init 40 = .ok (.invokespecial 13, 3) := by decide +kernel
theorem dX0_init_43 : decode cX0_init 43 = .ok (.putfield 23, 3) := by decide +kernel
theorem dX0_init_46 : decode cX0_init 46 = .ok (.aload_n 0, 1) := by decide +kernel
theorem dX0_init_47 : decode cX0_init 47 = .ok (.new 26, 3) := by decide +kernel
theorem dX0_init_50 : decode cX0_init 50 = .ok (.dup, 1) := by decide +kernel
theorem dX0_init_51 : decode cX0_init 51 = .ok (.bipush 100, 2) := by decide +kernel
theorem dX0_init_53 : decode cX0_init 53 = .ok (.iconst 0, 1) := by decide +kernel
theorem dX0_init_54 : decode cX0_init 54 = .ok (.invokespecial 28, 3) := by decide +kernel
theorem dX0_init_57 : decode cX0_init 57 = .ok (.putfield 29, 3) := by decide +kernel
theorem dX0_init_60 : decode cX0_init 60 = .ok (.aload_n 0, 1) := by decide +kernel
theorem dX0_init_61 : decode cX0_init 61 = .ok (.new 26, 3) := by decide +kernel
theorem dX0_init_64 : decode cX0_init 64 = .ok (.dup, 1) := by decide +kernel
theorem dX0_init_65 : decode cX0_init 65 = .ok (.bipush 100, 2) := by decide +kernel
theorem dX0_init_67 : decode cX0_init 67 = .ok (.iconst (-1), 1) := by decide +kernel
theorem dX0_init_68 : decode cX0_init 68 = .ok (.invokespecial 28, 3) := by decide +kernel
theorem dX0_init_71 : decode cX0_init 71 = .ok (.putfield 33, 3) := by decide +kernel
theorem dX0_init_74 : decode cX0_init 74 = .ok (.aload_n 0, 1) := by decide +kernel
theorem dX0_init_75 : decode cX0_init 75 = .ok (.new 26, 3) := by decide +kernel
theorem dX0_init_78 : decode cX0_init 78 = .ok (.dup, 1) := by decide +kernel
theorem dX0_init_79 : decode cX0_init 79 = .ok (.bipush 12, 2) := by decide +kernel
theorem dX0_init_81 : decode cX0_init 81 = .ok (.iconst (-1), 1) := by decide +kernel
theorem dX0_init_82 : decode cX0_init 82 = .ok (.invokespecial 28, 3) := by decide +kernel
theorem dX0_init_85 : decode cX0_init 85 = .ok (.putfield 36, 3) := by decide +kernel
theorem dX0_init_88 : decode cX0_init 88 = .ok (.return_, 1) := by decide +kernel
theorem dX0_begin_0 : decode cX0_begin 0 = .ok (.aload_n 0, 1) := by decide +kernel
theorem dX0_begin_1 : decode cX0_begin 1 = .ok (.iload_n 1, 1) := by decide +kernel
theorem dX0_begin_2 : decode cX0_begin 2 = .ok (.putfield 39, 3) := by decide +kernel
theorem dX0_begin_5 : decode cX0_begin 5 = .ok (.aload_n 0, 1) := by decide +kernel
theorem dX0_begin_6 : decode cX0_begin 6 = .ok (.iload_n 2, 1) := by decide +kernel
theorem dX0_begin_7 : decode cX0_begin 7 = .ok (.putfield 43, 3) := by decide +kernel
theorem dX0_begin_10 : decode cX0_begin 10 = .ok (.aload_n 0, 1) := by decide +kernel
theorem dX0_begin_11 : decode cX0_begin 11 = .ok (.sipush 500, 3) := by decide +kernel
theorem dX0_begin_14 : decode cX0_begin 14 = .ok (.putfield 46, 3) := by decide +kernel
theorem dX0_begin_17 : decode cX0_begin 17 = .ok (.aload_n 0, 1) := by decide +kernel
theorem dX0_begin_18 : decode cX0_begin 18 = .ok (.iconst 1, 1) := by decide +kernel
theorem dX0_begin_19 : decode cX0_begin 19 = .ok (.putfield 49, 3) := by decide +kernel
theorem dX0_begin_22 : decode cX0_begin 22 = .ok (.aload_n 0, 1) := by decide +kernel
theorem dX0_begin_23 : decode cX0_begin 23 = .ok (.iconst 0, 1) := by decide +kernel
theorem dX0_begin_24 : decode cX0_begin 24 = .ok (.putfield 52, 3) := by decide +kernel
theorem dX0_begin_27 : decode cX0_begin 27 = .ok (.aload_n 0, 1) := by decide +kernel
theorem dX0_begin_28 : decode cX0_begin 28 = .ok (.iconst 0, 1) := by decide +kernel
theorem dX0_begin_29 : decode cX0_begin 29 = .ok (.putfield 55, 3) := by decide +kernel
theorem dX0_begin_32 : decode cX0_begin 32 = .ok (.aload_n 0, 1) := by decide +kernel
theorem dX0_begin_33 : decode cX0_begin 33 = .ok (.iconst 0, 1) := by decide +kernel
theorem dX0_begin_34 : decode cX0_begin 34 = .ok (.putfield 58, 3) := by decide +kernel
theorem dX0_begin_37 : decode cX0_begin 37 = .ok (.aload_n 0, 1) := by decide +kernel
theorem dX0_begin_38 : decode cX0_begin 38 = .ok (.iconst 0, 1) := by decide +kernel
theorem dX0_begin_39 : decode cX0_begin 39 = .ok (.putfield 61, 3) := by decide +kernel
theorem dX0_begin_42 : decode cX0_begin 42 = .ok (.aload_n 0, 1) := by decide +kernel
theorem dX0_begin_43 : decode cX0_begin 43 = .ok (.iconst 0, 1) := by decide +kernel
theorem dX0_begin_44 : decode cX0_begin 44 = .ok (.putfield 64, 3) := by decide +kernel
theorem dX0_begin_47 : decode cX0_begin 47 = .ok (.aload_n 0, 1) := by decide +kernel
theorem dX0_begin_48 : decode cX0_begin 48 = .ok (.iconst 0, 1) := by decide +kernel
theorem dX0_begin_49 : decode cX0_begin 49 = .ok (.putfield 67, 3) := by decide +kernel
theorem dX0_begin_52 : decode cX0_begin 52 = .ok (.aload_n 0, 1) := by decide +kernel
theorem dX0_begin_53 : decode cX0_begin 53 = .ok (.iconst 0, 1) := by decide +kernel
theorem dX0_begin_54 : decode cX0_begin 54 = .ok (.putfield 70, 3) := by decide +kernel
theorem dX0_begin_57 : decode cX0_begin 57 = .ok (.aload_n 0, 1) := by decide +kernel
theorem dX0_begin_58 : decode cX0_begin 58 = .ok (.getfield 29, 3) := by decide +kernel
theorem dX0_begin_61 : decode cX0_begin 61 = .ok (.iconst 0, 1) := by decide +kernel
theorem dX0_begin_62 : decode cX0_begin 62 = .ok (.invokevirtual 73, 3) := by decide +kernel
theorem dX0_begin_65 : decode cX0_begin 65 = .ok (.aload_n 0, 1) := by decide +kernel
theorem dX0_begin_66 : decode cX0_begin 66 = .ok (.getfield 33, 3) := by decide +kernel
theorem dX0_begin_69 : decode cX0_begin 69 = .ok (.iconst (-1), 1) := by decide +kernel
theorem dX0_begin_70 : decode cX0_begin 70 = .ok (.invokevirtual 73, 3) := by decide +kernel
theorem dX0_begin_73 : decode cX0_begin 73 = .ok (.return_, 1) := by decide +kernel
theorem dX0_copyFrom_0 : decode cX0_copyFrom 0 = .ok (.aload_n 0, 1) := by decide +kernel
theorem dX0_copyFrom_1 : decode cX0_copyFrom 1 = .ok (.getfield 16, 3) := by decide +kernel
theorem dX0_copyFrom_4 : decode cX0_copyFrom 4 = .ok (.aload_n 1, 1) := by decide +kernel
theorem dX0_copyFrom_5 : decode cX0_copyFrom 5 = .ok (.getfield 16, 3) := by decide +kernel
theorem dX0_copyFrom_8 : decode cX0_copyFrom 8 = .ok (.invokevirtual 77, 3) := by decide +kernel
theorem dX0_copyFrom_11 : decode cX0_copyFrom 11 = .ok (.aload_n 0, 1) := by decide +kernel
theorem dX0_copyFrom_12 : decode cX0_copyFrom 12 = .ok (.getfield 20, 3) := by decide +kernel
theorem dX0_copyFrom_15 : decode cX0_copyFrom 15 = .ok (.aload_n 1, 1) := by decide +kernel
theorem dX0_copyFrom_16 : decode cX0_copyFrom 16 = .ok (.getfield 20, 3) := by decide +kernel
theorem dX0_copyFrom_19 : decode cX0_copyFrom 19 = .ok (.invokevirtual 77, 3) := by decide +kernel
theorem dX0_copyFrom_22 : decode cX0_copyFrom 22 = .ok (.aload_n 0, 1) := by decide +kernel
theorem dX0_copyFrom_23 : decode cX0_copyFrom 23 = .ok (.getfield 23, 3) := by decide +kernel
theorem dX0_copyFrom_26 : decode cX0_copyFrom 26 = .ok (.aload_n 1, 1) := by decide +kernel
theorem dX0_copyFrom_27 : decode cX0_copyFrom 27 = .ok (.getfield 23, 3) := by decide +kernel
theorem dX0_copyFrom_30 : decode cX0_copyFrom 30 = .ok (.invokevirtual 77, 3) := by decide +kernel
theorem dX0_copyFrom_33 : decode cX0_copyFrom 33 = .ok (.aload_n 0, 1) := by decide +kernel
theorem dX0_copyFrom_34 : decode cX0_copyFrom 34 = .ok (.getfield 29, 3) := by decide +kernel
theorem dX0_copyFrom_37 : decode cX0_copyFrom 37 = .ok (.aload_n 1, 1) := by decide +kernel
theorem dX0_copyFrom_38 : decode cX0_copyFrom 38 = .ok (.getfield 29, 3) := by decide +kernel
theorem dX0_copyFrom_41 : decode cX0_copyFrom 41 = .ok (.invokevirtual 81, 3) := by decide +kernel
theorem dX0_copyFrom_44 : decode cX0_copyFrom 44 = .ok (.aload_n 0, 1) := by decide +kernel
theorem dX0_copyFrom_45 : decode cX0_copyFrom 45 = .ok (.getfield 33, 3) := by decide +kernel
theorem dX0_copyFrom_48 : decode cX0_copyFrom 48 = .ok (.aload_n 1, 1) := by decide +kernel
theorem dX0_copyFrom_49 : decode cX0_copyFrom 49 = .ok (.getfield 33, 3) := by decide +kernel
theorem dX0_copyFrom_52 : decode cX0_copyFrom 52 = .ok (.invokevirtual 81, 3) := by decide +kernel
theorem dX0_copyFrom_55 : decode cX0_copyFrom 55 = .ok (.aload_n 0, 1) := by decide +kernel
theorem dX0_copyFrom_56 : decode cX0_copyFrom 56 = .ok (.getfield 36, 3) := by decide +kernel
theorem dX0_copyFrom_59 : decode cX0_copyFrom 59 = .ok (.aload_n 1, 1) := by decide +kernel
theorem dX0_copyFrom_60 : decode cX0_copyFrom 60 = .ok (.getfield 36, 3) := by decide +kernel
theorem dX0_copyFrom_63 : decode cX0_copyFrom 63 = .ok (.invokevirtual 81, 3) := by decide +kernel
theorem dX0_copyFrom_66 : decode cX0_copyFrom 66 = .ok (.aload_n 0, 1) := by decide +kernel
theorem dX0_copyFrom_67 : decode cX0_copyFrom 67 = .ok (.aload_n 1, 1) := by decide +kernel
theorem dX0_copyFrom_68 : decode cX0_copyFrom 68 = .ok (.getfield 39, 3) := by decide +kernel
theorem dX0_copyFrom_71 : decode cX0_copyFrom 71 = .ok (.putfield 39, 3) := by decide +kernel
theorem dX0_copyFrom_74 : decode cX0_copyFrom 74 = .ok (.aload_n 0, 1) := by decide +kernel
theorem dX0_copyFrom_75 : decode cX0_copyFrom 75 = .ok (.aload_n 1, 1) := by decide +kernel
theorem dX0_copyFrom_76 : decode cX0_copyFrom 76 = .ok (.getfield 43, 3) := by decide +kernel
theorem dX0_copyFrom_79 : decode cX0_copyFrom 79 = .ok (.putfield 43, 3) := by decide +kernel
theorem dX0_copyFrom_82 : decode cX0_copyFrom 82 = .ok (.aload_n 0, 1) := by decide +kernel
theorem dX0_copyFrom_83 : decode cX0_copyFrom 83 = .ok (.aload_n 1, 1) := by decide +kernel
theorem dX0_copyFrom_84 : decode cX0_copyFrom 84 = .ok (.getfield 46, 3) := by decide +kernel
theorem dX0_copyFrom_87 : decode cX0_copyFrom 87 = .ok (.putfield 46, 3) := by decide +kernel
theorem dX0_copyFrom_90 : decode cX0_copyFrom 90 = .ok (.aload_n 0, 1) := by decide +kernel
theorem dX0_copyFrom_91 : decode cX0_copyFrom 91 = .ok (.aload_n 1, 1) := by decide +kernel
theorem dX0_copyFrom_92 : decode cX0_copyFrom 92 = .ok (.getfield 49, 3) := by decide +kernel
theorem dX0_copyFrom_95 : decode cX0_copyFrom 95 = .ok (.putfield 49, 3) := by decide +kernel
theorem dX0_copyFrom_98 : decode cX0_copyFrom 98 = .ok (.aload_n 0, 1) := by decide +kernel
theorem dX0_copyFrom_99 : decode cX0_copyFrom 99 = .ok (.aload_n 1, 1) := by decide +kernel
theorem dX0_copyFrom_100 : decode cX0_copyFrom 100 = .ok (.getfield 52, 3) := by decide +kernel
theorem dX0_copyFrom_103 : decode cX0_copyFrom 103 = .ok (.putfield 52, 3) := by decide +kernel
theorem dX0_copyFrom_106 : decode cX0_copyFrom 106 = .ok (.aload_n 0, 1) := by decide +kernel
theorem dX0_copyFrom_107 : decode cX0_copyFrom 107 = .ok (.aload_n 1, 1) := by decide +kernel
theorem dX0_copyFrom_108 : decode cX0_copyFrom 108 = .ok (.getfield 55, 3) := by decide +kernel
theorem dX0_copyFrom_111 : decode cX0_copyFrom 111 = .ok (.putfield 55, 3) := by decide +kernel
theorem dX0_copyFrom_114 : decode cX0_copyFrom 114 = .ok (.aload_n 0, 1) := by decide +kernel
theorem dX0_copyFrom_115 : decode cX0_copyFrom 115 = .ok (.aload_n 1, 1) := by decide +kernel
theorem dX0_copyFrom_116 : decode cX0_copyFrom 116 = .ok (.getfield 58, 3) := by decide +kernel
theorem dX0_copyFrom_119 : decode cX0_copyFrom 119 = .ok (.putfield 58, 3) := by decide +kernel
theorem dX0_copyFrom_122 : decode cX0_copyFrom 122 = .ok (.aload_n 0, 1) := by decide +kernel
theorem dX0_copyFrom_123 : decode cX0_copyFrom 123 = .ok (.aload_n 1, 1) := by decide +kernel
theorem dX0_copyFrom_124 : decode cX0_copyFrom 124 = .ok (.getfield 61, 3) := by decide +kernel
theorem dX0_copyFrom_127 : decode cX0_copyFrom 127 = .ok (.putfield 61, 3) := by decide +kernel
theorem dX0_copyFrom_130 : decode cX0_copyFrom 130 = .ok (.aload_n 0, 1) := by decide +kernel
theorem dX0_copyFrom_131 : decode cX0_copyFrom 131 = .ok (.aload_n 1, 1) := by decide +kernel
theorem dX0_copyFrom_132 : decode cX0_copyFrom 132 = .ok (.getfield 64, 3) := by decide +kernel
theorem dX0_copyFrom_135 : decode cX0_copyFrom 135 = .ok (.putfield 64, 3) := by decide +kernel
theorem dX0_copyFrom_138 : decode cX0_copyFrom 138 = .ok (.aload_n 0, 1) := by decide +kernel
theorem dX0_copyFrom_139 : decode cX0_copyFrom 139 = .ok (.aload_n 1, 1) := by decide +kernel
theorem dX0_copyFrom_140 : decode cX0_copyFrom 140 = .ok (.getfield 67, 3) := by decide +kernel
theorem dX0_copyFrom_143 : decode cX0_copyFrom 143 = .ok (.putfield 67, 3) := by decide +kernel
theorem dX0_copyFrom_146 : decode cX0_copyFrom 146 = .ok (.aload_n 0, 1) := by decide +kernel
theorem dX0_copyFrom_147 : decode cX0_copyFrom 147 = .ok (.aload_n 1, 1) := by decide +kernel
theorem dX0_copyFrom_148 : decode cX0_copyFrom 148 = .ok (.getfield 70, 3) := by decide +kernel
theorem dX0_copyFrom_151 : decode cX0_copyFrom 151 = .ok (.putfield 70, 3) := by decide +kernel
theorem dX0_copyFrom_154 : decode cX0_copyFrom 154 = .ok (.return_, 1) := by decide +kernel
theorem dX0_cellCount_0 : decode cX0_cellCount 0 = .ok (.aload_n 0, 1) := by decide +kernel
theorem dX0_cellCount_1 : decode cX0_cellCount 1 = .ok (.getfield 39, 3) := by decide +kernel
theorem dX0_cellCount_4 : decode cX0_cellCount 4 = .ok (.aload_n 0, 1) := by decide +kernel
theorem dX0_cellCount_5 : decode cX0_cellCount 5 = .ok (.getfield 43, 3) := by decide +kernel
theorem dX0_cellCount_8 : decode cX0_cellCount 8 = .ok (.imul, 1) := by decide +kernel
theorem dX0_cellCount_9 : decode cX0_cellCount 9 = .ok (.ireturn, 1) := by decide +kernel
theorem dX0_cellAt_0 : decode cX0_cellAt 0 = .ok (.iload_n 1, 1) := by decide +kernel
theorem dX0_cellAt_1 : decode cX0_cellAt 1 = .ok (.ifCond .lt 34, 3) := by decide +kernel
theorem dX0_cellAt_4 : decode cX0_cellAt 4 = .ok (.iload_n 1, 1) := by decide +kernel
theorem dX0_cellAt_5 : decode cX0_cellAt 5 = .ok (.aload_n 0, 1) := by decide +kernel
theorem dX0_cellAt_6 : decode cX0_cellAt 6 = .ok (.getfield 39, 3) := by decide +kernel
theorem dX0_cellAt_9 : decode cX0_cellAt 9 = .ok (.if_icmp .ge 26, 3) := by decide +kernel
theorem dX0_cellAt_12 : decode cX0_cellAt 12 = .ok (.iload_n 2, 1) := by decide +kernel
theorem dX0_cellAt_13 : decode cX0_cellAt 13 = .ok (.ifCond .lt 22, 3) := by decide +kernel
theorem dX0_cellAt_16 : decode cX0_cellAt 16 = .ok (.iload_n 2, 1) := by decide +kernel
theorem dX0_cellAt_17 : decode cX0_cellAt 17 = .ok (.aload_n 0, 1) := by decide +kernel
theorem dX0_cellAt_18 : decode cX0_cellAt 18 = .ok (.getfield 43, 3) := by decide +kernel
theorem dX0_cellAt_21 : decode cX0_cellAt 21 = .ok (.if_icmp .ge 14, 3) := by decide +kernel
theorem dX0_cellAt_24 : decode cX0_cellAt 24 = .ok (.aload_n 0, 1) := by decide +kernel
theorem dX0_cellAt_25 : decode cX0_cellAt 25 = .ok (.getfield 39, 3) := by decide +kernel
theorem dX0_cellAt_28 : decode cX0_cellAt 28 = .ok (.iload_n 2, 1) := by decide +kernel
theorem dX0_cellAt_29 : decode cX0_cellAt 29 = .ok (.imul, 1) := by decide +kernel
theorem dX0_cellAt_30 : decode cX0_cellAt 30 = .ok (.iload_n 1, 1) := by decide +kernel
theorem dX0_cellAt_31 : decode cX0_cellAt 31 = .ok (.iadd, 1) := by decide +kernel
theorem dX0_cellAt_32 : decode cX0_cellAt 32 = .ok (.goto 4, 3) := by decide +kernel
theorem dX0_cellAt_35 : decode cX0_cellAt 35 = .ok (.iconst (-1), 1) := by decide +kernel
theorem dX0_cellAt_36 : decode cX0_cellAt 36 = .ok (.ireturn, 1) := by decide +kernel
theorem dX0_columnOf_0 : decode cX0_columnOf 0 = .ok (.aload_n 0, 1) := by decide +kernel
theorem dX0_columnOf_1 : decode cX0_columnOf 1 = .ok (.getfield 39, 3) := by decide +kernel
theorem dX0_columnOf_4 : decode cX0_columnOf 4 = .ok (.ifCond .le 12, 3) := by decide +kernel
theorem dX0_columnOf_7 : decode cX0_columnOf 7 = .ok (.iload_n 1, 1) := by decide +kernel
theorem dX0_columnOf_8 : decode cX0_columnOf 8 = .ok (.aload_n 0, 1) := by decide +kernel
theorem dX0_columnOf_9 : decode cX0_columnOf 9 = .ok (.getfield 39, 3) := by decide +kernel
theorem dX0_columnOf_12 : decode cX0_columnOf 12 = .ok (.irem, 1) := by decide +kernel
theorem dX0_columnOf_13 : decode cX0_columnOf 13 = .ok (.goto 4, 3) := by decide +kernel
theorem dX0_columnOf_16 : decode cX0_columnOf 16 = .ok (.iconst 0, 1) := by decide +kernel
theorem dX0_columnOf_17 : decode cX0_columnOf 17 = .ok (.ireturn, 1) := by decide +kernel
theorem dX0_rowOf_0 : decode cX0_rowOf 0 = .ok (.aload_n 0, 1) := by decide +kernel
theorem dX0_rowOf_1 : decode cX0_rowOf 1 = .ok (.getfield 39, 3) := by decide +kernel
theorem dX0_rowOf_4 : decode cX0_rowOf 4 = .ok (.ifCond .le 12, 3) := by decide +kernel
theorem dX0_rowOf_7 : decode cX0_rowOf 7 = .ok (.iload_n 1, 1) := by decide +kernel
theorem dX0_rowOf_8 : decode cX0_rowOf 8 = .ok (.aload_n 0, 1) := by decide +kernel
theorem dX0_rowOf_9 : decode cX0_rowOf 9 = .ok (.getfield 39, 3) := by decide +kernel
theorem dX0_rowOf_12 : decode cX0_rowOf 12 = .ok (.idiv, 1) := by decide +kernel
theorem dX0_rowOf_13 : decode cX0_rowOf 13 = .ok (.goto 4, 3) := by decide +kernel
theorem dX0_rowOf_16 : decode cX0_rowOf 16 = .ok (.iconst 0, 1) := by decide +kernel
theorem dX0_rowOf_17 : decode cX0_rowOf 17 = .ok (.ireturn, 1) := by decide +kernel
theorem dX0_cellOf_0 : decode cX0_cellOf 0 = .ok (.aload_n 0, 1) := by decide +kernel
theorem dX0_cellOf_1 : decode cX0_cellOf 1 = .ok (.aload_n 0, 1) := by decide +kernel
theorem dX0_cellOf_2 : decode cX0_cellOf 2 = .ok (.getfield 16, 3) := by decide +kernel
theorem dX0_cellOf_5 : decode cX0_cellOf 5 = .ok (.iload_n 1, 1) := by decide +kernel
theorem dX0_cellOf_6 : decode cX0_cellOf 6 = .ok (.iconst 0, 1) := by decide +kernel
theorem dX0_cellOf_7 : decode cX0_cellOf 7 = .ok (.invokevirtual 84, 3) := by decide +kernel
theorem dX0_cellOf_10 : decode cX0_cellOf 10 = .ok (.aload_n 0, 1) := by decide +kernel
theorem dX0_cellOf_11 : decode cX0_cellOf 11 = .ok (.getfield 16, 3) := by decide +kernel
theorem dX0_cellOf_14 : decode cX0_cellOf 14 = .ok (.iload_n 1, 1) := by decide +kernel
theorem dX0_cellOf_15 : decode cX0_cellOf 15 = .ok (.iconst 1, 1) := by decide +kernel
theorem dX0_cellOf_16 : decode cX0_cellOf 16 = .ok (.invokevirtual 84, 3) := by decide +kernel
theorem dX0_cellOf_19 : decode cX0_cellOf 19 = .ok (.invokevirtual 88, 3) := by decide +kernel
theorem dX0_cellOf_22 : decode cX0_cellOf 22 = .ok (.ireturn, 1) := by decide +kernel
theorem dX0_isAfloat_0 : decode cX0_isAfloat 0 = .ok (.aload_n 0, 1) := by decide +kernel
theorem dX0_isAfloat_1 : decode cX0_isAfloat 1 = .ok (.getfield 16, 3) := by decide +kernel
theorem dX0_isAfloat_4 : decode cX0_isAfloat 4 = .ok (.iload_n 1, 1) := by decide +kernel
theorem dX0_isAfloat_5 : decode cX0_isAfloat 5 = .ok (.bipush 7, 2) := by decide +kernel
theorem dX0_isAfloat_7 : decode cX0_isAfloat 7 = .ok (.invokevirtual 84, 3) := by decide +kernel
theorem dX0_isAfloat_10 : decode cX0_isAfloat 10 = .ok (.ifCond .ne 7, 3) := by decide +kernel
theorem dX0_isAfloat_13 : decode cX0_isAfloat 13 = .ok (.iconst 1, 1) := by decide +kernel
theorem dX0_isAfloat_14 : decode cX0_isAfloat 14 = .ok (.goto 4, 3) := by decide +kernel
theorem dX0_isAfloat_17 : decode cX0_isAfloat 17 = .ok (.iconst 0, 1) := by decide +kernel
theorem dX0_isAfloat_18 : decode cX0_isAfloat 18 = .ok (.ireturn, 1) := by decide +kernel
theorem dX0_hasOtherBoat_0 : decode cX0_hasOtherBoat 0 = .ok (.aload_n 0, 1) := by decide +kernel
theorem dX0_hasOtherBoat_1 : decode cX0_hasOtherBoat 1 = .ok (.getfield 33, 3) := by decide +kernel
theorem dX0_hasOtherBoat_4 : decode cX0_hasOtherBoat 4 = .ok (.iload_n 1, 1) := by decide +kernel
theorem dX0_hasOtherBoat_5 : decode cX0_hasOtherBoat 5 = .ok (.invokevirtual 91, 3) := by decide +kernel
theorem dX0_hasOtherBoat_8 : decode cX0_hasOtherBoat 8 = .ok (.istore_n 3, 1) := by decide +kernel
theorem dX0_hasOtherBoat_9 : decode cX0_hasOtherBoat 9 = .ok (.iload_n 3, 1) := by decide +kernel
theorem dX0_hasOtherBoat_10 : decode cX0_hasOtherBoat 10 = .ok (.iconst (-1), 1) := by decide +kernel
theorem dX0_hasOtherBoat_11 : decode cX0_hasOtherBoat 11 = .ok (.if_icmp .eq 12, 3) := by decide +kernel
theorem dX0_hasOtherBoat_14 : decode cX0_hasOtherBoat 14 = .ok (.iload_n 3, 1) := by decide +kernel
theorem dX0_hasOtherBoat_15 : decode cX0_hasOtherBoat 15 = .ok (.iload_n 2, 1) := by decide +kernel
theorem dX0_hasOtherBoat_16 : decode cX0_hasOtherBoat 16 = .ok (.if_icmp .eq 7, 3) := by decide +kernel
theorem dX0_hasOtherBoat_19 : decode cX0_hasOtherBoat 19 = .ok (.iconst 1, 1) := by decide +kernel
theorem dX0_hasOtherBoat_20 : decode cX0_hasOtherBoat 20 = .ok (.goto 4, 3) := by decide +kernel
theorem dX0_hasOtherBoat_23 : decode cX0_hasOtherBoat 23 = .ok (.iconst 0, 1) := by decide +kernel
theorem dX0_hasOtherBoat_24 : decode cX0_hasOtherBoat 24 = .ok (.ireturn, 1) := by decide +kernel
theorem dX0_reserve_0 : decode cX0_reserve 0 = .ok (.aload_n 0, 1) := by decide +kernel
theorem dX0_reserve_1 : decode cX0_reserve 1 = .ok (.getfield 16, 3) := by decide +kernel
theorem dX0_reserve_4 : decode cX0_reserve 4 = .ok (.iload_n 1, 1) := by decide +kernel
theorem dX0_reserve_5 : decode cX0_reserve 5 = .ok (.iconst 3, 1) := by decide +kernel
theorem dX0_reserve_6 : decode cX0_reserve 6 = .ok (.invokevirtual 84, 3) := by decide +kernel
theorem dX0_reserve_9 : decode cX0_reserve 9 = .ok (.aload_n 0, 1) := by decide +kernel
theorem dX0_reserve_10 : decode cX0_reserve 10 = .ok (.getfield 16, 3) := by decide +kernel
theorem dX0_reserve_13 : decode cX0_reserve 13 = .ok (.iload_n 1, 1) := by decide +kernel
theorem dX0_reserve_14 : decode cX0_reserve 14 = .ok (.iconst 4, 1) := by decide +kernel
theorem dX0_reserve_15 : decode cX0_reserve 15 = .ok (.invokevirtual 84, 3) := by decide +kernel
theorem dX0_reserve_18 : decode cX0_reserve 18 = .ok (.isub, 1) := by decide +kernel
theorem dX0_reserve_19 : decode cX0_reserve 19 = .ok (.ireturn, 1) := by decide +kernel
theorem dX0_drainWorks_0 : decode cX0_drainWorks 0 = .ok (.aload_n 0, 1) := by decide +kernel
theorem dX0_drainWorks_1 : decode cX0_drainWorks 1 = .ok (.getfield 20, 3) := by decide +kernel
theorem dX0_drainWorks_4 : decode cX0_drainWorks 4 = .ok (.iload_n 1, 1) := by decide +kernel
theorem dX0_drainWorks_5 : decode cX0_drainWorks 5 = .ok (.iconst 3, 1) := by decide +kernel
theorem dX0_drainWorks_6 : decode cX0_drainWorks 6 = .ok (.invokevirtual 84, 3) := by decide +kernel
theorem dX0_drainWorks_9 : decode cX0_drainWorks 9 = .ok (.ifCond .gt 5, 3) := by decide +kernel
theorem dX0_drainWorks_12 : decode cX0_drainWorks 12 = .ok (.iconst 0, 1) := by decide +kernel
theorem dX0_drainWorks_13 : decode cX0_drainWorks 13 = .ok (.ireturn, 1) := by decide +kernel
theorem dX0_drainWorks_14 : decode cX0_drainWorks 14 = .ok (.aload_n 0, 1) := by decide +kernel
theorem dX0_drainWorks_15 : decode cX0_drainWorks 15 = .ok (.getfield 33, 3) := by decide +kernel
theorem dX0_drainWorks_18 : decode cX0_drainWorks 18 = .ok (.aload_n 0, 1) := by decide +kernel
theorem dX0_drainWorks_19 : decode cX0_drainWorks 19 = .ok (.getfield 39, 3) := by decide +kernel
theorem dX0_drainWorks_22 : decode cX0_drainWorks 22 = .ok (.aload_n 0, 1) := by decide +kernel
theorem dX0_drainWorks_23 : decode cX0_drainWorks 23 = .ok (.getfield 20, 3) := by decide +kernel
theorem dX0_drainWorks_26 : decode cX0_drainWorks 26 = .ok (.iload_n 1, 1) := by decide +kernel
theorem dX0_drainWorks_27 : decode cX0_drainWorks 27 = .ok (.iconst 1, 1) := by decide +kernel
theorem dX0_drainWorks_28 : decode cX0_drainWorks 28 = .ok (.invokevirtual 84, 3) := by decide +kernel
theorem dX0_drainWorks_31 : decode cX0_drainWorks 31 = .ok (.imul, 1) := by decide +kernel
theorem dX0_drainWorks_32 : decode cX0_drainWorks 32 = .ok (.aload_n 0, 1) := by decide +kernel
theorem dX0_drainWorks_33 : decode cX0_drainWorks 33 = .ok (.getfield 20, 3) := by decide +kernel
theorem dX0_drainWorks_36 : decode cX0_drainWorks 36 = .ok (.iload_n 1, 1) := by decide +kernel
theorem dX0_drainWorks_37 : decode cX0_drainWorks 37 = .ok (.iconst 0, 1) := by decide +kernel
theorem dX0_drainWorks_38 : decode cX0_drainWorks 38 = .ok (.invokevirtual 84, 3) := by decide +kernel
theorem dX0_drainWorks_41 : decode cX0_drainWorks 41 = .ok (.iadd, 1) := by decide +kernel
theorem dX0_drainWorks_42 : decode cX0_drainWorks 42 = .ok (.invokevirtual 91, 3) := by decide +kernel
theorem dX0_drainWorks_45 : decode cX0_drainWorks 45 = .ok (.istore_n 2, 1) := by decide +kernel
theorem dX0_drainWorks_46 : decode cX0_drainWorks 46 = .ok (.iload_n 2, 1) := by decide +kernel
theorem dX0_drainWorks_47 : decode cX0_drainWorks 47 = .ok (.iconst (-1), 1) := by decide +kernel
theorem dX0_drainWorks_48 : decode cX0_drainWorks 48 = .ok (.if_icmp .eq 24, 3) := by decide +kernel
theorem dX0_drainWorks_51 : decode cX0_drainWorks 51 = .ok (.aload_n 0, 1) := by decide +kernel
theorem dX0_drainWorks_52 : decode cX0_drainWorks 52 = .ok (.getfield 16, 3) := by decide +kernel
theorem dX0_drainWorks_55 : decode cX0_drainWorks 55 = .ok (.iload_n 2, 1) := by decide +kernel
theorem dX0_drainWorks_56 : decode cX0_drainWorks 56 = .ok (.iconst 2, 1) := by decide +kernel
theorem dX0_drainWorks_57 : decode cX0_drainWorks 57 = .ok (.invokevirtual 84, 3) := by decide +kernel
theorem dX0_drainWorks_60 : decode cX0_drainWorks 60 = .ok (.aload_n 0, 1) := by decide +kernel
theorem dX0_drainWorks_61 : decode cX0_drainWorks 61 = .ok (.getfield 20, 3) := by decide +kernel
theorem dX0_drainWorks_64 : decode cX0_drainWorks 64 = .ok (.iload_n 1, 1) := by decide +kernel
theorem dX0_drainWorks_65 : decode cX0_drainWorks 65 = .ok (.iconst 2, 1) := by decide +kernel
theorem dX0_drainWorks_66 : decode cX0_drainWorks 66 = .ok (.invokevirtual 84, 3) := by decide +kernel
theorem dX0_drainWorks_69 : decode cX0_drainWorks 69 = .ok (.if_icmp .gt 7, 3) := by decide +kernel
theorem dX0_drainWorks_72 : decode cX0_drainWorks 72 = .ok (.iconst 1, 1) := by decide +kernel
theorem dX0_drainWorks_73 : decode cX0_drainWorks 73 = .ok (.goto 4, 3) := by decide +kernel
theorem dX0_drainWorks_76 : decode cX0_drainWorks 76 = .ok (.iconst 0, 1) := by decide +kernel
theorem dX0_drainWorks_77 : decode cX0_drainWorks 77 = .ok (.ireturn, 1) := by decide +kernel
theorem dX0_wouldDrain_0 : decode cX0_wouldDrain 0 = .ok (.aload_n 0, 1) := by decide +kernel
theorem dX0_wouldDrain_1 : decode cX0_wouldDrain 1 = .ok (.iload_n 1, 1) := by decide +kernel
theorem dX0_wouldDrain_2 : decode cX0_wouldDrain 2 = .ok (.invokevirtual 94, 3) := by decide +kernel
theorem dX0_wouldDrain_5 : decode cX0_wouldDrain 5 = .ok (.istore_n 3, 1) := by decide +kernel
theorem dX0_wouldDrain_6 : decode cX0_wouldDrain 6 = .ok (.iload_n 3, 1) := by decide +kernel
theorem dX0_wouldDrain_7 : decode cX0_wouldDrain 7 = .ok (.iconst (-1), 1) := by decide +kernel
theorem dX0_wouldDrain_8 : decode cX0_wouldDrain 8 = .ok (.if_icmp .eq 40, 3) := by decide +kernel
theorem dX0_wouldDrain_11 : decode cX0_wouldDrain 11 = .ok (.aload_n 0, 1) := by decide +kernel
theorem dX0_wouldDrain_12 : decode cX0_wouldDrain 12 = .ok (.getfield 20, 3) := by decide +kernel
theorem dX0_wouldDrain_15 : decode cX0_wouldDrain 15 = .ok (.iload_n 3, 1) := by decide +kernel
theorem dX0_wouldDrain_16 : decode cX0_wouldDrain 16 = .ok (.iconst 3, 1) := by decide +kernel
theorem dX0_wouldDrain_17 : decode cX0_wouldDrain 17 = .ok (.invokevirtual 84, 3) := by decide +kernel
theorem dX0_wouldDrain_20 : decode cX0_wouldDrain 20 = .ok (.ifCond .le 28, 3) := by decide +kernel
theorem dX0_wouldDrain_23 : decode cX0_wouldDrain 23 = .ok (.aload_n 0, 1) := by decide +kernel
theorem dX0_wouldDrain_24 : decode cX0_wouldDrain 24 = .ok (.getfield 20, 3) := by decide +kernel
theorem dX0_wouldDrain_27 : decode cX0_wouldDrain 27 = .ok (.iload_n 3, 1) := by decide +kernel
theorem dX0_wouldDrain_28 : decode cX0_wouldDrain 28 = .ok (.iconst 2, 1) := by decide +kernel
theorem dX0_wouldDrain_29 : decode cX0_wouldDrain 29 = .ok (.invokevirtual 84, 3) := by decide +kernel
theorem dX0_wouldDrain_32 : decode cX0_wouldDrain 32 = .ok (.aload_n 0, 1) := by decide +kernel
theorem dX0_wouldDrain_33 : decode cX0_wouldDrain 33 = .ok (.getfield 16, 3) := by decide +kernel
theorem dX0_wouldDrain_36 : decode cX0_wouldDrain 36 = .ok (.iload_n 2, 1) := by decide +kernel
theorem dX0_wouldDrain_37 : decode cX0_wouldDrain 37 = .ok (.iconst 2, 1) := by decide +kernel
theorem dX0_wouldDrain_38 : decode cX0_wouldDrain 38 = .ok (.invokevirtual 84, 3) := by decide +kernel
theorem dX0_wouldDrain_41 : decode cX0_wouldDrain 41 = .ok (.if_icmp .lt 7, 3) := by decide +kernel
theorem dX0_wouldDrain_44 : decode cX0_wouldDrain 44 = .ok (.iconst 1, 1) := by decide +kernel
theorem dX0_wouldDrain_45 : decode cX0_wouldDrain 45 = .ok (.goto 4, 3) := by decide +kernel
theorem dX0_wouldDrain_48 : decode cX0_wouldDrain 48 = .ok (.iconst 0, 1) := by decide +kernel
theorem dX0_wouldDrain_49 : decode cX0_wouldDrain 49 = .ok (.ireturn, 1) := by decide +kernel
theorem dX0_drainIn_0 : decode cX0_drainIn 0 = .ok (.iconst 0, 1) := by decide +kernel
theorem dX0_drainIn_1 : decode cX0_drainIn 1 = .ok (.istore_n 2, 1) := by decide +kernel
theorem dX0_drainIn_2 : decode cX0_drainIn 2 = .ok (.iload_n 2, 1) := by decide +kernel
theorem dX0_drainIn_3 : decode cX0_drainIn 3 = .ok (.aload_n 0, 1) := by decide +kernel
theorem dX0_drainIn_4 : decode cX0_drainIn 4 = .ok (.getfield 64, 3) := by decide +kernel
theorem dX0_drainIn_7 : decode cX0_drainIn 7 = .ok (.if_icmp .ge 39, 3) := by decide +kernel
theorem dX0_drainIn_10 : decode cX0_drainIn 10 = .ok (.aload_n 0, 1) := by decide +kernel
theorem dX0_drainIn_11 : decode cX0_drainIn 11 = .ok (.getfield 39, 3) := by decide +kernel
theorem dX0_drainIn_14 : decode cX0_drainIn 14 = .ok (.aload_n 0, 1) := by decide +kernel
theorem dX0_drainIn_15 : decode cX0_drainIn 15 = .ok (.getfield 20, 3) := by decide +kernel
theorem dX0_drainIn_18 : decode cX0_drainIn 18 = .ok (.iload_n 2, 1) := by decide +kernel
theorem dX0_drainIn_19 : decode cX0_drainIn 19 = .ok (.iconst 1, 1) := by decide +kernel
theorem dX0_drainIn_20 : decode cX0_drainIn 20 = .ok (.invokevirtual 84, 3) := by decide +kernel
theorem dX0_drainIn_23 : decode cX0_drainIn 23 = .ok (.imul, 1) := by decide +kernel
theorem dX0_drainIn_24 : decode cX0_drainIn 24 = .ok (.aload_n 0, 1) := by decide +kernel
theorem dX0_drainIn_25 : decode cX0_drainIn 25 = .ok (.getfield 20, 3) := by decide +kernel
theorem dX0_drainIn_28 : decode cX0_drainIn 28 = .ok (.iload_n 2, 1) := by decide +kernel
theorem dX0_drainIn_29 : decode cX0_drainIn 29 = .ok (.iconst 0, 1) := by decide +kernel
theorem dX0_drainIn_30 : decode cX0_drainIn 30 = .ok (.invokevirtual 84, 3) := by decide +kernel
theorem dX0_drainIn_33 : decode cX0_drainIn 33 = .ok (.iadd, 1) := by decide +kernel
theorem dX0_drainIn_34 : decode cX0_drainIn 34 = .ok (.iload_n 1, 1) := by decide +kernel
theorem dX0_drainIn_35 : decode cX0_drainIn 35 = .ok (.if_icmp .ne 5, 3) := by decide +kernel
theorem dX0_drainIn_38 : decode cX0_drainIn 38 = .ok (.iload_n 2, 1) := by decide +kernel
theorem dX0_drainIn_39 : decode cX0_drainIn 39 = .ok (.ireturn, 1) := by decide +kernel
theorem dX0_drainIn_40 : decode cX0_drainIn 40 = .ok (.iinc 2 1, 3) := by decide +kernel
theorem dX0_drainIn_43 : decode cX0_drainIn 43 = .ok (.goto (-41), 3) := by decide +kernel
theorem dX0_drainIn_46 : decode cX0_drainIn 46 = .ok (.iconst (-1), 1) := by decide +kernel
theorem dX0_drainIn_47 : decode cX0_drainIn 47 = .ok (.ireturn, 1) := by decide +kernel
theorem dX0_tapIn_0 : decode cX0_tapIn 0 = .ok (.iconst 0, 1) := by decide +kernel
theorem dX0_tapIn_1 : decode cX0_tapIn 1 = .ok (.istore_n 2, 1) := by decide +kernel
theorem dX0_tapIn_2 : decode cX0_tapIn 2 = .ok (.iload_n 2, 1) := by decide +kernel
theorem dX0_tapIn_3 : decode cX0_tapIn 3 = .ok (.aload_n 0, 1) := by decide +kernel
theorem dX0_tapIn_4 : decode cX0_tapIn 4 = .ok (.getfield 67, 3) := by decide +kernel
theorem dX0_tapIn_7 : decode cX0_tapIn 7 = .ok (.if_icmp .ge 39, 3) := by decide +kernel
theorem dX0_tapIn_10 : decode cX0_tapIn 10 = .ok (.aload_n 0, 1) := by decide +kernel
theorem dX0_tapIn_11 : decode cX0_tapIn 11 = .ok (.getfield 39, 3) := by decide +kernel
theorem dX0_tapIn_14 : decode cX0_tapIn 14 = .ok (.aload_n 0, 1) := by decide +kernel
theorem dX0_tapIn_15 : decode cX0_tapIn 15 = .ok (.getfield 23, 3) := by decide +kernel
theorem dX0_tapIn_18 : decode cX0_tapIn 18 = .ok (.iload_n 2, 1) := by decide +kernel
theorem dX0_tapIn_19 : decode cX0_tapIn 19 = .ok (.iconst 1, 1) := by decide +kernel
theorem dX0_tapIn_20 : decode cX0_tapIn 20 = .ok (.invokevirtual 84, 3) := by decide +kernel
theorem dX0_tapIn_23 : decode cX0_tapIn 23 = .ok (.imul, 1) := by decide +kernel
theorem dX0_tapIn_24 : decode cX0_tapIn 24 = .ok (.aload_n 0, 1) := by decide +kernel
theorem dX0_tapIn_25 : decode cX0_tapIn 25 = .ok (.getfield 23, 3) := by decide +kernel
theorem dX0_tapIn_28 : decode cX0_tapIn 28 = .ok (.iload_n 2, 1) := by decide +kernel
theorem dX0_tapIn_29 : decode cX0_tapIn 29 = .ok (.iconst 0, 1) := by decide +kernel
theorem dX0_tapIn_30 : decode cX0_tapIn 30 = .ok (.invokevirtual 84, 3) := by decide +kernel
theorem dX0_tapIn_33 : decode cX0_tapIn 33 = .ok (.iadd, 1) := by decide +kernel
theorem dX0_tapIn_34 : decode cX0_tapIn 34 = .ok (.iload_n 1, 1) := by decide +kernel
theorem dX0_tapIn_35 : decode cX0_tapIn 35 = .ok (.if_icmp .ne 5, 3) := by decide +kernel
theorem dX0_tapIn_38 : decode cX0_tapIn 38 = .ok (.iload_n 2, 1) := by decide +kernel
theorem dX0_tapIn_39 : decode cX0_tapIn 39 = .ok (.ireturn, 1) := by decide +kernel
theorem dX0_tapIn_40 : decode cX0_tapIn 40 = .ok (.iinc 2 1, 3) := by decide +kernel
theorem dX0_tapIn_43 : decode cX0_tapIn 43 = .ok (.goto (-41), 3) := by decide +kernel
theorem dX0_tapIn_46 : decode cX0_tapIn 46 = .ok (.iconst (-1), 1) := by decide +kernel
theorem dX0_tapIn_47 : decode cX0_tapIn 47 = .ok (.ireturn, 1) := by decide +kernel
theorem dX0_countBoats_0 : decode cX0_countBoats 0 = .ok (.iconst 0, 1) := by decide +kernel
theorem dX0_countBoats_1 : decode cX0_countBoats 1 = .ok (.istore_n 2, 1) := by decide +kernel
theorem dX0_countBoats_2 : decode cX0_countBoats 2 = .ok (.iconst 0, 1) := by decide +kernel
theorem dX0_countBoats_3 : decode cX0_countBoats 3 = .ok (.istore_n 3, 1) := by decide +kernel
theorem dX0_countBoats_4 : decode cX0_countBoats 4 = .ok (.iload_n 3, 1) := by decide +kernel
theorem dX0_countBoats_5 : decode cX0_countBoats 5 = .ok (.aload_n 0, 1) := by decide +kernel
theorem dX0_countBoats_6 : decode cX0_countBoats 6 = .ok (.getfield 61, 3) := by decide +kernel
theorem dX0_countBoats_9 : decode cX0_countBoats 9 = .ok (.if_icmp .ge 26, 3) := by decide +kernel
theorem dX0_countBoats_12 : decode cX0_countBoats 12 = .ok (.aload_n 0, 1) := by decide +kernel
theorem dX0_countBoats_13 : decode cX0_countBoats 13 = .ok (.getfield 16, 3) := by decide +kernel
theorem dX0_countBoats_16 : decode cX0_countBoats 16 = .ok (.iload_n 3, 1) := by decide +kernel
theorem dX0_countBoats_17 : decode cX0_countBoats 17 = .ok (.bipush 7, 2) := by decide +kernel
theorem dX0_countBoats_19 : decode cX0_countBoats 19 = .ok (.invokevirtual 84, 3) := by decide +kernel
theorem dX0_countBoats_22 : decode cX0_countBoats 22 = .ok (.iload_n 1, 1) := by decide +kernel
theorem dX0_countBoats_23 : decode cX0_countBoats 23 = .ok (.if_icmp .ne 6, 3) := by decide +kernel
theorem dX0_countBoats_26 : decode cX0_countBoats 26 = .ok (.iinc 2 1, 3) := by decide +kernel
theorem dX0_countBoats_29 : decode cX0_countBoats 29 = .ok (.iinc 3 1, 3) := by decide +kernel
theorem dX0_countBoats_32 : decode cX0_countBoats 32 = .ok (.goto (-28), 3) := by decide +kernel
theorem dX0_countBoats_35 : decode cX0_countBoats 35 = .ok (.iload_n 2, 1) := by decide +kernel
theorem dX0_countBoats_36 : decode cX0_countBoats 36 = .ok (.ireturn, 1) := by decide +kernel
theorem dX0_countWorkingDrains_0 : decode cX0_countWorkingDrains 0 = .ok (.iconst 0, 1) := by decide +kernel
theorem dX0_countWorkingDrains_1 : decode cX0_countWorkingDrains 1 = .ok (.istore_n 1, 1) := by decide +kernel
theorem dX0_countWorkingDrains_2 : decode cX0_countWorkingDrains 2 = .ok (.iconst 0, 1) := by decide +kernel
theorem dX0_countWorkingDrains_3 : decode cX0_countWorkingDrains 3 = .ok (.istore_n 2, 1) := by decide +kernel
theorem dX0_countWorkingDrains_4 : decode cX0_countWorkingDrains 4 = .ok (.iload_n 2, 1) := by decide +kernel
theorem dX0_countWorkingDrains_5 : decode cX0_countWorkingDrains 5 = .ok (.aload_n 0, 1) := by decide +kernel
theorem dX0_countWorkingDrains_6 : decode cX0_countWorkingDrains 6 = .ok (.getfield 64, 3) := by decide +kernel
theorem dX0_countWorkingDrains_9 : decode cX0_countWorkingDrains 9 = .ok (.if_icmp .ge 20, 3) := by decide +kernel
theorem dX0_countWorkingDrains_12 : decode cX0_countWorkingDrains 12 = .ok (.aload_n 0, 1) := by decide +kernel
theorem dX0_countWorkingDrains_13 : decode cX0_countWorkingDrains 13 = .ok (.iload_n 2, 1) := by decide +kernel
theorem dX0_countWorkingDrains_14 : decode cX0_countWorkingDrains 14 = .ok (.invokevirtual 97, 3) := by decide +kernel
theorem dX0_countWorkingDrains_17 : decode cX0_countWorkingDrains 17 = .ok (.ifCond .eq 6, 3) := by decide +kernel
theorem dX0_countWorkingDrains_20 : decode cX0_countWorkingDrains 20 = .ok (.iinc 1 1, 3) := by decide +kernel
theorem dX0_countWorkingDrains_23 : decode cX0_countWorkingDrains 23 = .ok (.iinc 2 1, 3) := by decide +kernel
theorem dX0_countWorkingDrains_26 : decode cX0_countWorkingDrains 26 = .ok (.goto (-22), 3) := by decide +kernel
theorem dX0_countWorkingDrains_29 : decode cX0_countWorkingDrains 29 = .ok (.iload_n 1, 1) := by decide +kernel
theorem dX0_countWorkingDrains_30 : decode cX0_countWorkingDrains 30 = .ok (.ireturn, 1) := by decide +kernel
theorem dX0_countSoap_0 : decode cX0_countSoap 0 = .ok (.iconst 0, 1) := by decide +kernel
theorem dX0_countSoap_1 : decode cX0_countSoap 1 = .ok (.istore_n 1, 1) := by decide +kernel
theorem dX0_countSoap_2 : decode cX0_countSoap 2 = .ok (.iconst 0, 1) := by decide +kernel
theorem dX0_countSoap_3 : decode cX0_countSoap 3 = .ok (.istore_n 2, 1) := by decide +kernel
theorem dX0_countSoap_4 : decode cX0_countSoap 4 = .ok (.iload_n 2, 1) := by decide +kernel
theorem dX0_countSoap_5 : decode cX0_countSoap 5 = .ok (.aload_n 0, 1) := by decide +kernel
theorem dX0_countSoap_6 : decode cX0_countSoap 6 = .ok (.getfield 39, 3) := by decide +kernel
theorem dX0_countSoap_9 : decode cX0_countSoap 9 = .ok (.aload_n 0, 1) := by decide +kernel
theorem dX0_countSoap_10 : decode cX0_countSoap 10 = .ok (.getfield 43, 3) := by decide +kernel
theorem dX0_countSoap_13 : decode cX0_countSoap 13 = .ok (.imul, 1) := by decide +kernel
theorem dX0_countSoap_14 : decode cX0_countSoap 14 = .ok (.if_icmp .ge 20, 3) := by decide +kernel
theorem dX0_countSoap_17 : decode cX0_countSoap 17 = .ok (.iload_n 1, 1) := by decide +kernel
theorem dX0_countSoap_18 : decode cX0_countSoap 18 = .ok (.aload_n 0, 1) := by decide +kernel
theorem dX0_countSoap_19 : decode cX0_countSoap 19 = .ok (.getfield 29, 3) := by decide +kernel
theorem dX0_countSoap_22 : decode cX0_countSoap 22 = .ok (.iload_n 2, 1) := by decide +kernel
theorem dX0_countSoap_23 : decode cX0_countSoap 23 = .ok (.invokevirtual 91, 3) := by decide +kernel
theorem dX0_countSoap_26 : decode cX0_countSoap 26 = .ok (.iadd, 1) := by decide +kernel
theorem dX0_countSoap_27 : decode cX0_countSoap 27 = .ok (.istore_n 1, 1) := by decide +kernel
theorem dX0_countSoap_28 : decode cX0_countSoap 28 = .ok (.iinc 2 1, 3) := by decide +kernel
theorem dX0_countSoap_31 : decode cX0_countSoap 31 = .ok (.goto (-27), 3) := by decide +kernel
theorem dX0_countSoap_34 : decode cX0_countSoap 34 = .ok (.iload_n 1, 1) := by decide +kernel
theorem dX0_countSoap_35 : decode cX0_countSoap 35 = .ok (.ireturn, 1) := by decide +kernel
theorem dX0_addSoap_0 : decode cX0_addSoap 0 = .ok (.aload_n 0, 1) := by decide +kernel
theorem dX0_addSoap_1 : decode cX0_addSoap 1 = .ok (.getfield 29, 3) := by decide +kernel
theorem dX0_addSoap_4 : decode cX0_addSoap 4 = .ok (.iload_n 1, 1) := by decide +kernel
theorem dX0_addSoap_5 : decode cX0_addSoap 5 = .ok (.aload_n 0, 1) := by decide +kernel
theorem dX0_addSoap_6 : decode cX0_addSoap 6 = .ok (.getfield 29, 3) := by decide +kernel
theorem dX0_addSoap_9 : decode cX0_addSoap 9 = .ok (.iload_n 1, 1) := by decide +kernel
theorem dX0_addSoap_10 : decode cX0_addSoap 10 = .ok (.invokevirtual 91, 3) := by decide +kernel
theorem dX0_addSoap_13 : decode cX0_addSoap 13 = .ok (.iload_n 2, 1) := by decide +kernel
theorem dX0_addSoap_14 : decode cX0_addSoap 14 = .ok (.iadd, 1) := by decide +kernel
theorem dX0_addSoap_15 : decode cX0_addSoap 15 = .ok (.bipush 99, 2) := by decide +kernel
theorem dX0_addSoap_17 : decode cX0_addSoap 17 = .ok (.invokestatic 101, 3) := by decide +kernel
theorem dX0_addSoap_20 : decode cX0_addSoap 20 = .ok (.invokevirtual 106, 3) := by decide +kernel
theorem dX0_addSoap_23 : decode cX0_addSoap 23 = .ok (.return_, 1) := by decide +kernel
theorem dX0_addDrain_0 : decode cX0_addDrain 0 = .ok (.aload_n 0, 1) := by decide +kernel
theorem dX0_addDrain_1 : decode cX0_addDrain 1 = .ok (.getfield 20, 3) := by decide +kernel
theorem dX0_addDrain_4 : decode cX0_addDrain 4 = .ok (.aload_n 0, 1) := by decide +kernel
theorem dX0_addDrain_5 : decode cX0_addDrain 5 = .ok (.getfield 64, 3) := by decide +kernel
theorem dX0_addDrain_8 : decode cX0_addDrain 8 = .ok (.iconst 0, 1) := by decide +kernel
theorem dX0_addDrain_9 : decode cX0_addDrain 9 = .ok (.iload_n 1, 1) := by decide +kernel
theorem dX0_addDrain_10 : decode cX0_addDrain 10 = .ok (.invokevirtual 109, 3) := by decide +kernel
theorem dX0_addDrain_13 : decode cX0_addDrain 13 = .ok (.aload_n 0, 1) := by decide +kernel
theorem dX0_addDrain_14 : decode cX0_addDrain 14 = .ok (.getfield 20, 3) := by decide +kernel
theorem dX0_addDrain_17 : decode cX0_addDrain 17 = .ok (.aload_n 0, 1) := by decide +kernel
theorem dX0_addDrain_18 : decode cX0_addDrain 18 = .ok (.getfield 64, 3) := by decide +kernel
theorem dX0_addDrain_21 : decode cX0_addDrain 21 = .ok (.iconst 1, 1) := by decide +kernel
theorem dX0_addDrain_22 : decode cX0_addDrain 22 = .ok (.iload_n 2, 1) := by decide +kernel
theorem dX0_addDrain_23 : decode cX0_addDrain 23 = .ok (.invokevirtual 109, 3) := by decide +kernel
theorem dX0_addDrain_26 : decode cX0_addDrain 26 = .ok (.aload_n 0, 1) := by decide +kernel
theorem dX0_addDrain_27 : decode cX0_addDrain 27 = .ok (.getfield 20, 3) := by decide +kernel
theorem dX0_addDrain_30 : decode cX0_addDrain 30 = .ok (.aload_n 0, 1) := by decide +kernel
theorem dX0_addDrain_31 : decode cX0_addDrain 31 = .ok (.getfield 64, 3) := by decide +kernel
theorem dX0_addDrain_34 : decode cX0_addDrain 34 = .ok (.iconst 2, 1) := by decide +kernel
theorem dX0_addDrain_35 : decode cX0_addDrain 35 = .ok (.iload_n 3, 1) := by decide +kernel
theorem dX0_addDrain_36 : decode cX0_addDrain 36 = .ok (.invokevirtual 109, 3) := by decide +kernel
theorem dX0_addDrain_39 : decode cX0_addDrain 39 = .ok (.aload_n 0, 1) := by decide +kernel
theorem dX0_addDrain_40 : decode cX0_addDrain 40 = .ok (.getfield 20, 3) := by decide +kernel
theorem dX0_addDrain_43 : decode cX0_addDrain 43 = .ok (.aload_n 0, 1) := by decide +kernel
theorem dX0_addDrain_44 : decode cX0_addDrain 44 = .ok (.getfield 64, 3) := by decide +kernel
theorem dX0_addDrain_47 : decode cX0_addDrain 47 = .ok (.iconst 3, 1) := by decide +kernel
theorem dX0_addDrain_48 : decode cX0_addDrain 48 = .ok (.iload 4, 2) := by decide +kernel
theorem dX0_addDrain_50 : decode cX0_addDrain 50 = .ok (.invokevirtual 109, 3) := by decide +kernel
theorem dX0_addDrain_53 : decode cX0_addDrain 53 = .ok (.aload_n 0, 1) := by decide +kernel
theorem dX0_addDrain_54 : decode cX0_addDrain 54 = .ok (.getfield 20, 3) := by decide +kernel
theorem dX0_addDrain_57 : decode cX0_addDrain 57 = .ok (.aload_n 0, 1) := by decide +kernel
theorem dX0_addDrain_58 : decode cX0_addDrain 58 = .ok (.getfield 64, 3) := by decide +kernel
theorem dX0_addDrain_61 : decode cX0_addDrain 61 = .ok (.iconst 5, 1) := by decide +kernel
theorem dX0_addDrain_62 : decode cX0_addDrain 62 = .ok (.iconst 0, 1) := by decide +kernel
theorem dX0_addDrain_63 : decode cX0_addDrain 63 = .ok (.invokevirtual 109, 3) := by decide +kernel
theorem dX0_addDrain_66 : decode cX0_addDrain 66 = .ok (.aload_n 0, 1) := by decide +kernel
theorem dX0_addDrain_67 : decode cX0_addDrain 67 = .ok (.dup, 1) := by decide +kernel
theorem dX0_addDrain_68 : decode cX0_addDrain 68 = .ok (.getfield 64, 3) := by decide +kernel
theorem dX0_addDrain_71 : decode cX0_addDrain 71 = .ok (.iconst 1, 1) := by decide +kernel
theorem dX0_addDrain_72 : decode cX0_addDrain 72 = .ok (.iadd, 1) := by decide +kernel
theorem dX0_addDrain_73 : decode cX0_addDrain 73 = .ok (.putfield 64, 3) := by decide +kernel
theorem dX0_addDrain_76 : decode cX0_addDrain 76 = .ok (.return_, 1) := by decide +kernel
theorem dX0_addTap_0 : decode cX0_addTap 0 = .ok (.aload_n 0, 1) := by decide +kernel
theorem dX0_addTap_1 : decode cX0_addTap 1 = .ok (.getfield 23, 3) := by decide +kernel
theorem dX0_addTap_4 : decode cX0_addTap 4 = .ok (.aload_n 0, 1) := by decide +kernel
theorem dX0_addTap_5 : decode cX0_addTap 5 = .ok (.getfield 67, 3) := by decide +kernel
theorem dX0_addTap_8 : decode cX0_addTap 8 = .ok (.iconst 0, 1) := by decide +kernel
theorem dX0_addTap_9 : decode cX0_addTap 9 = .ok (.iload_n 1, 1) := by decide +kernel
theorem dX0_addTap_10 : decode cX0_addTap 10 = .ok (.invokevirtual 109, 3) := by decide +kernel
theorem dX0_addTap_13 : decode cX0_addTap 13 = .ok (.aload_n 0, 1) := by decide +kernel
theorem dX0_addTap_14 : decode cX0_addTap 14 = .ok (.getfield 23, 3) := by decide +kernel
theorem dX0_addTap_17 : decode cX0_addTap 17 = .ok (.aload_n 0, 1) := by decide +kernel
theorem dX0_addTap_18 : decode cX0_addTap 18 = .ok (.getfield 67, 3) := by decide +kernel
theorem dX0_addTap_21 : decode cX0_addTap 21 = .ok (.iconst 1, 1) := by decide +kernel
theorem dX0_addTap_22 : decode cX0_addTap 22 = .ok (.iload_n 2, 1) := by decide +kernel
theorem dX0_addTap_23 : decode cX0_addTap 23 = .ok (.invokevirtual 109, 3) := by decide +kernel
theorem dX0_addTap_26 : decode cX0_addTap 26 = .ok (.aload_n 0, 1) := by decide +kernel
theorem dX0_addTap_27 : decode cX0_addTap 27 = .ok (.getfield 23, 3) := by decide +kernel
theorem dX0_addTap_30 : decode cX0_addTap 30 = .ok (.aload_n 0, 1) := by decide +kernel
theorem dX0_addTap_31 : decode cX0_addTap 31 = .ok (.getfield 67, 3) := by decide +kernel
theorem dX0_addTap_34 : decode cX0_addTap 34 = .ok (.iconst 2, 1) := by decide +kernel
theorem dX0_addTap_35 : decode cX0_addTap 35 = .ok (.iload_n 3, 1) := by decide +kernel
theorem dX0_addTap_36 : decode cX0_addTap 36 = .ok (.invokevirtual 109, 3) := by decide +kernel
theorem dX0_addTap_39 : decode cX0_addTap 39 = .ok (.aload_n 0, 1) := by decide +kernel
theorem dX0_addTap_40 : decode cX0_addTap 40 = .ok (.dup, 1) := by decide +kernel
theorem dX0_addTap_41 : decode cX0_addTap 41 = .ok (.getfield 67, 3) := by decide +kernel
theorem dX0_addTap_44 : decode cX0_addTap 44 = .ok (.iconst 1, 1) := by decide +kernel
theorem dX0_addTap_45 : decode cX0_addTap 45 = .ok (.iadd, 1) := by decide +kernel
theorem dX0_addTap_46 : decode cX0_addTap 46 = .ok (.putfield 67, 3) := by decide +kernel
theorem dX0_addTap_49 : decode cX0_addTap 49 = .ok (.return_, 1) := by decide +kernel
theorem dX0_launch_0 : decode cX0_launch 0 = .ok (.iconst 0, 1) := by decide +kernel
theorem dX0_launch_1 : decode cX0_launch 1 = .ok (.istore 5, 2) := by decide +kernel
theorem dX0_launch_3 : decode cX0_launch 3 = .ok (.iload 5, 2) := by decide +kernel
theorem dX0_launch_5 : decode cX0_launch 5 = .ok (.bipush 11, 2) := by decide +kernel
theorem dX0_launch_7 : decode cX0_launch 7 = .ok (.if_icmp .ge 23, 3) := by decide +kernel
theorem dX0_launch_10 : decode cX0_launch 10 = .ok (.aload_n 0, 1) := by decide +kernel
theorem dX0_launch_11 : decode cX0_launch 11 = .ok (.getfield 16, 3) := by decide +kernel
theorem dX0_launch_14 : decode cX0_launch 14 = .ok (.aload_n 0, 1) := by decide +kernel
theorem dX0_launch_15 : decode cX0_launch 15 = .ok (.getfield 61, 3) := by decide +kernel
theorem dX0_launch_18 : decode cX0_launch 18 = .ok (.iload 5, 2) := by decide +kernel
theorem dX0_launch_20 : decode cX0_launch 20 = .ok (.iconst 0, 1) := by decide +kernel
theorem dX0_launch_21 : decode cX0_launch 21 = .ok (.invokevirtual 109, 3) := by decide +kernel
theorem dX0_launch_24 : decode cX0_launch 24 = .ok (.iinc 5 1, 3) := by decide +kernel
theorem dX0_launch_27 : decode cX0_launch 27 = .ok (.goto (-24), 3) := by decide +kernel
theorem dX0_launch_30 : decode cX0_launch 30 = .ok (.aload_n 0, 1) := by decide +kernel
theorem dX0_launch_31 : decode cX0_launch 31 = .ok (.getfield 16, 3) := by decide +kernel
theorem dX0_launch_34 : decode cX0_launch 34 = .ok (.aload_n 0, 1) := by decide +kernel
theorem dX0_launch_35 : decode cX0_launch 35 = .ok (.getfield 61, 3) := by decide +kernel
theorem dX0_launch_38 : decode cX0_launch 38 = .ok (.iconst 0, 1) := by decide +kernel
theorem dX0_launch_39 : decode cX0_launch 39 = .ok (.iload_n 1, 1) := by decide +kernel
theorem dX0_launch_40 : decode cX0_launch 40 = .ok (.invokevirtual 109, 3) := by decide +kernel
theorem dX0_launch_43 : decode cX0_launch 43 = .ok (.aload_n 0, 1) := by decide +kernel
theorem dX0_launch_44 : decode cX0_launch 44 = .ok (.getfield 16, 3) := by decide +kernel
theorem dX0_launch_47 : decode cX0_launch 47 = .ok (.aload_n 0, 1) := by decide +kernel
theorem dX0_launch_48 : decode cX0_launch 48 = .ok (.getfield 61, 3) := by decide +kernel
theorem dX0_launch_51 : decode cX0_launch 51 = .ok (.iconst 1, 1) := by decide +kernel
theorem dX0_launch_52 : decode cX0_launch 52 = .ok (.iload_n 2, 1) := by decide +kernel
theorem dX0_launch_53 : decode cX0_launch 53 = .ok (.invokevirtual 109, 3) := by decide +kernel
theorem dX0_launch_56 : decode cX0_launch 56 = .ok (.aload_n 0, 1) := by decide +kernel
theorem dX0_launch_57 : decode cX0_launch 57 = .ok (.getfield 16, 3) := by decide +kernel
theorem dX0_launch_60 : decode cX0_launch 60 = .ok (.aload_n 0, 1) := by decide +kernel
theorem dX0_launch_61 : decode cX0_launch 61 = .ok (.getfield 61, 3) := by decide +kernel
theorem dX0_launch_64 : decode cX0_launch 64 = .ok (.iconst 2, 1) := by decide +kernel
theorem dX0_launch_65 : decode cX0_launch 65 = .ok (.iload_n 3, 1) := by decide +kernel
theorem dX0_launch_66 : decode cX0_launch 66 = .ok (.invokevirtual 109, 3) := by decide +kernel
theorem dX0_launch_69 : decode cX0_launch 69 = .ok (.aload_n 0, 1) := by decide +kernel
theorem dX0_launch_70 : decode cX0_launch 70 = .ok (.getfield 16, 3) := by decide +kernel
theorem dX0_launch_73 : decode cX0_launch 73 = .ok (.aload_n 0, 1) := by decide +kernel
theorem dX0_launch_74 : decode cX0_launch 74 = .ok (.getfield 61, 3) := by decide +kernel
theorem dX0_launch_77 : decode cX0_launch 77 = .ok (.iconst 3, 1) := by decide +kernel
theorem dX0_launch_78 : decode cX0_launch 78 = .ok (.iload 4, 2) := by decide +kernel
theorem dX0_launch_80 : decode cX0_launch 80 = .ok (.invokevirtual 109, 3) := by decide +kernel
theorem dX0_launch_83 : decode cX0_launch 83 = .ok (.aload_n 0, 1) := by decide +kernel
theorem dX0_launch_84 : decode cX0_launch 84 = .ok (.getfield 16, 3) := by decide +kernel
theorem dX0_launch_87 : decode cX0_launch 87 = .ok (.aload_n 0, 1) := by decide +kernel
theorem dX0_launch_88 : decode cX0_launch 88 = .ok (.getfield 61, 3) := by decide +kernel
theorem dX0_launch_91 : decode cX0_launch 91 = .ok (.bipush 8, 2) := by decide +kernel
theorem dX0_launch_93 : decode cX0_launch 93 = .ok (.iconst (-1), 1) := by decide +kernel
theorem dX0_launch_94 : decode cX0_launch 94 = .ok (.invokevirtual 109, 3) := by decide +kernel
theorem dX0_launch_97 : decode cX0_launch 97 = .ok (.aload_n 0, 1) := by decide +kernel
theorem dX0_launch_98 : decode cX0_launch 98 = .ok (.getfield 33, 3) := by decide +kernel
theorem dX0_launch_101 : decode cX0_launch 101 = .ok (.aload_n 0, 1) := by decide +kernel
theorem dX0_launch_102 : decode cX0_launch 102 = .ok (.iload_n 1, 1) := by decide +kernel
theorem dX0_launch_103 : decode cX0_launch 103 = .ok (.iload_n 2, 1) := by decide +kernel
theorem dX0_launch_104 : decode cX0_launch 104 = .ok (.invokevirtual 88, 3) := by decide +kernel
theorem dX0_launch_107 : decode cX0_launch 107 = .ok (.aload_n 0, 1) := by decide +kernel
theorem dX0_launch_108 : decode cX0_launch 108 = .ok (.getfield 61, 3) := by decide +kernel
theorem dX0_launch_111 : decode cX0_launch 111 = .ok (.invokevirtual 106, 3) := by decide +kernel
theorem dX0_launch_114 : decode cX0_launch 114 = .ok (.aload_n 0, 1) := by decide +kernel
theorem dX0_launch_115 : decode cX0_launch 115 = .ok (.dup, 1) := by decide +kernel
theorem dX0_launch_116 : decode cX0_launch 116 = .ok (.getfield 61, 3) := by decide +kernel
theorem dX0_launch_119 : decode cX0_launch 119 = .ok (.iconst 1, 1) := by decide +kernel
theorem dX0_launch_120 : decode cX0_launch 120 = .ok (.iadd, 1) := by decide +kernel
theorem dX0_launch_121 : decode cX0_launch 121 = .ok (.putfield 61, 3) := by decide +kernel
theorem dX0_launch_124 : decode cX0_launch 124 = .ok (.return_, 1) := by decide +kernel
theorem dX0_place_0 : decode cX0_place 0 = .ok (.aload_n 0, 1) := by decide +kernel
theorem dX0_place_1 : decode cX0_place 1 = .ok (.getfield 33, 3) := by decide +kernel
theorem dX0_place_4 : decode cX0_place 4 = .ok (.aload_n 0, 1) := by decide +kernel
theorem dX0_place_5 : decode cX0_place 5 = .ok (.aload_n 0, 1) := by decide +kernel
theorem dX0_place_6 : decode cX0_place 6 = .ok (.getfield 16, 3) := by decide +kernel
theorem dX0_place_9 : decode cX0_place 9 = .ok (.iload_n 1, 1) := by decide +kernel
theorem dX0_place_10 : decode cX0_place 10 = .ok (.iconst 0, 1) := by decide +kernel
theorem dX0_place_11 : decode cX0_place 11 = .ok (.invokevirtual 84, 3) := by decide +kernel
theorem dX0_place_14 : decode cX0_place 14 = .ok (.aload_n 0, 1) := by decide +kernel
theorem dX0_place_15 : decode cX0_place 15 = .ok (.getfield 16, 3) := by decide +kernel
theorem dX0_place_18 : decode cX0_place 18 = .ok (.iload_n 1, 1) := by decide +kernel
theorem dX0_place_19 : decode cX0_place 19 = .ok (.iconst 1, 1) := by decide +kernel
theorem dX0_place_20 : decode cX0_place 20 = .ok (.invokevirtual 84, 3) := by decide +kernel
theorem dX0_place_23 : decode cX0_place 23 = .ok (.invokevirtual 88, 3) := by decide +kernel
theorem dX0_place_26 : decode cX0_place 26 = .ok (.iconst (-1), 1) := by decide +kernel
theorem dX0_place_27 : decode cX0_place 27 = .ok (.invokevirtual 106, 3) := by decide +kernel
theorem dX0_place_30 : decode cX0_place 30 = .ok (.aload_n 0, 1) := by decide +kernel
theorem dX0_place_31 : decode cX0_place 31 = .ok (.getfield 16, 3) := by decide +kernel
theorem dX0_place_34 : decode cX0_place 34 = .ok (.iload_n 1, 1) := by decide +kernel
theorem dX0_place_35 : decode cX0_place 35 = .ok (.iconst 0, 1) := by decide +kernel
theorem dX0_place_36 : decode cX0_place 36 = .ok (.iload_n 2, 1) := by decide +kernel
theorem dX0_place_37 : decode cX0_place 37 = .ok (.invokevirtual 109, 3) := by decide +kernel
theorem dX0_place_40 : decode cX0_place 40 = .ok (.aload_n 0, 1) := by decide +kernel
theorem dX0_place_41 : decode cX0_place 41 = .ok (.getfield 16, 3) := by decide +kernel
theorem dX0_place_44 : decode cX0_place 44 = .ok (.iload_n 1, 1) := by decide +kernel
theorem dX0_place_45 : decode cX0_place 45 = .ok (.iconst 1, 1) := by decide +kernel
theorem dX0_place_46 : decode cX0_place 46 = .ok (.iload_n 3, 1) := by decide +kernel
theorem dX0_place_47 : decode cX0_place 47 = .ok (.invokevirtual 109, 3) := by decide +kernel
theorem dX0_place_50 : decode cX0_place 50 = .ok (.aload_n 0, 1) := by decide +kernel
theorem dX0_place_51 : decode cX0_place 51 = .ok (.getfield 33, 3) := by decide +kernel
theorem dX0_place_54 : decode cX0_place 54 = .ok (.aload_n 0, 1) := by decide +kernel
theorem dX0_place_55 : decode cX0_place 55 = .ok (.iload_n 2, 1) := by decide +kernel
theorem dX0_place_56 : decode cX0_place 56 = .ok (.iload_n 3, 1) := by decide +kernel
theorem dX0_place_57 : decode cX0_place 57 = .ok (.invokevirtual 88, 3) := by decide +kernel
theorem dX0_place_60 : decode cX0_place 60 = .ok (.iload_n 1, 1) := by decide +kernel
theorem dX0_place_61 : decode cX0_place 61 = .ok (.invokevirtual 106, 3) := by decide +kernel
theorem dX0_place_64 : decode cX0_place 64 = .ok (.return_, 1) := by decide +kernel
theorem dX0_stopDrift_0 : decode cX0_stopDrift 0 = .ok (.aload_n 0, 1) := by decide +kernel
theorem dX0_stopDrift_1 : decode cX0_stopDrift 1 = .ok (.getfield 16, 3) := by decide +kernel
theorem dX0_stopDrift_4 : decode cX0_stopDrift 4 = .ok (.iload_n 1, 1) := by decide +kernel
theorem dX0_stopDrift_5 : decode cX0_stopDrift 5 = .ok (.iconst 5, 1) := by decide +kernel
theorem dX0_stopDrift_6 : decode cX0_stopDrift 6 = .ok (.iconst 0, 1) := by decide +kernel
theorem dX0_stopDrift_7 : decode cX0_stopDrift 7 = .ok (.invokevirtual 109, 3) := by decide +kernel
theorem dX0_stopDrift_10 : decode cX0_stopDrift 10 = .ok (.aload_n 0, 1) := by decide +kernel
theorem dX0_stopDrift_11 : decode cX0_stopDrift 11 = .ok (.getfield 16, 3) := by decide +kernel
theorem dX0_stopDrift_14 : decode cX0_stopDrift 14 = .ok (.iload_n 1, 1) := by decide +kernel
theorem dX0_stopDrift_15 : decode cX0_stopDrift 15 = .ok (.bipush 6, 2) := by decide +kernel
theorem dX0_stopDrift_17 : decode cX0_stopDrift 17 = .ok (.iconst 0, 1) := by decide +kernel
theorem dX0_stopDrift_18 : decode cX0_stopDrift 18 = .ok (.invokevirtual 109, 3) := by decide +kernel
theorem dX0_stopDrift_21 : decode cX0_stopDrift 21 = .ok (.return_, 1) := by decide +kernel
theorem dX0_limitDrift_0 : decode cX0_limitDrift 0 = .ok (.sipush (-300), 3) := by decide +kernel
theorem dX0_limitDrift_3 : decode cX0_limitDrift 3 = .ok (.iload_n 0, 1) := by decide +kernel
theorem dX0_limitDrift_4 : decode cX0_limitDrift 4 = .ok (.sipush 300, 3) := by decide +kernel
theorem dX0_limitDrift_7 : decode cX0_limitDrift 7 = .ok (.invokestatic 101, 3) := by decide +kernel
theorem dX0_limitDrift_10 : decode cX0_limitDrift 10 = .ok (.invokestatic 112, 3) := by decide +kernel
theorem dX0_limitDrift_13 : decode cX0_limitDrift 13 = .ok (.ireturn, 1) := by decide +kernel
theorem dX0_addDrift_0 : decode cX0_addDrift 0 = .ok (.aload_n 0, 1) := by decide +kernel
theorem dX0_addDrift_1 : decode cX0_addDrift 1 = .ok (.getfield 16, 3) := by decide +kernel
theorem dX0_addDrift_4 : decode cX0_addDrift 4 = .ok (.iload_n 1, 1) := by decide +kernel
theorem dX0_addDrift_5 : decode cX0_addDrift 5 = .ok (.iload_n 2, 1) := by decide +kernel
theorem dX0_addDrift_6 : decode cX0_addDrift 6 = .ok (.aload_n 0, 1) := by decide +kernel
theorem dX0_addDrift_7 : decode cX0_addDrift 7 = .ok (.getfield 16, 3) := by decide +kernel
theorem dX0_addDrift_10 : decode cX0_addDrift 10 = .ok (.iload_n 1, 1) := by decide +kernel
theorem dX0_addDrift_11 : decode cX0_addDrift 11 = .ok (.iload_n 2, 1) := by decide +kernel
theorem dX0_addDrift_12 : decode cX0_addDrift 12 = .ok (.invokevirtual 84, 3) := by decide +kernel
theorem dX0_addDrift_15 : decode cX0_addDrift 15 = .ok (.iload_n 3, 1) := by decide +kernel
theorem dX0_addDrift_16 : decode cX0_addDrift 16 = .ok (.iadd, 1) := by decide +kernel
theorem dX0_addDrift_17 : decode cX0_addDrift 17 = .ok (.invokestatic 115, 3) := by decide +kernel
theorem dX0_addDrift_20 : decode cX0_addDrift 20 = .ok (.invokevirtual 109, 3) := by decide +kernel
theorem dX0_addDrift_23 : decode cX0_addDrift 23 = .ok (.return_, 1) := by decide +kernel
theorem dX0_endBoat_0 : decode cX0_endBoat 0 = .ok (.aload_n 0, 1) := by decide +kernel
theorem dX0_endBoat_1 : decode cX0_endBoat 1 = .ok (.getfield 16, 3) := by decide +kernel
theorem dX0_endBoat_4 : decode cX0_endBoat 4 = .ok (.iload_n 1, 1) := by decide +kernel
theorem dX0_endBoat_5 : decode cX0_endBoat 5 = .ok (.bipush 7, 2) := by decide +kernel
theorem dX0_endBoat_7 : decode cX0_endBoat 7 = .ok (.iload_n 2, 1) := by decide +kernel
theorem dX0_endBoat_8 : decode cX0_endBoat 8 = .ok (.invokevirtual 109, 3) := by decide +kernel
theorem dX0_endBoat_11 : decode cX0_endBoat 11 = .ok (.aload_n 0, 1) := by decide +kernel
theorem dX0_endBoat_12 : decode cX0_endBoat 12 = .ok (.getfield 16, 3) := by decide +kernel
theorem dX0_endBoat_15 : decode cX0_endBoat 15 = .ok (.iload_n 1, 1) := by decide +kernel
theorem dX0_endBoat_16 : decode cX0_endBoat 16 = .ok (.bipush 8, 2) := by decide +kernel
theorem dX0_endBoat_18 : decode cX0_endBoat 18 = .ok (.aload_n 0, 1) := by decide +kernel
theorem dX0_endBoat_19 : decode cX0_endBoat 19 = .ok (.getfield 58, 3) := by decide +kernel
theorem dX0_endBoat_22 : decode cX0_endBoat 22 = .ok (.invokevirtual 109, 3) := by decide +kernel
theorem dX0_endBoat_25 : decode cX0_endBoat 25 = .ok (.aload_n 0, 1) := by decide +kernel
theorem dX0_endBoat_26 : decode cX0_endBoat 26 = .ok (.getfield 33, 3) := by decide +kernel
theorem dX0_endBoat_29 : decode cX0_endBoat 29 = .ok (.aload_n 0, 1) := by decide +kernel
theorem dX0_endBoat_30 : decode cX0_endBoat 30 = .ok (.iload_n 1, 1) := by decide +kernel
theorem dX0_endBoat_31 : decode cX0_endBoat 31 = .ok (.invokevirtual 118, 3) := by decide +kernel
theorem dX0_endBoat_34 : decode cX0_endBoat 34 = .ok (.iconst (-1), 1) := by decide +kernel
theorem dX0_endBoat_35 : decode cX0_endBoat 35 = .ok (.invokevirtual 106, 3) := by decide +kernel
theorem dX0_endBoat_38 : decode cX0_endBoat 38 = .ok (.aload_n 0, 1) := by decide +kernel
theorem dX0_endBoat_39 : decode cX0_endBoat 39 = .ok (.getfield 36, 3) := by decide +kernel
theorem dX0_endBoat_42 : decode cX0_endBoat 42 = .ok (.aload_n 0, 1) := by decide +kernel
theorem dX0_endBoat_43 : decode cX0_endBoat 43 = .ok (.getfield 70, 3) := by decide +kernel
theorem dX0_endBoat_46 : decode cX0_endBoat 46 = .ok (.iload_n 1, 1) := by decide +kernel
theorem dX0_endBoat_47 : decode cX0_endBoat 47 = .ok (.invokevirtual 106, 3) := by decide +kernel
theorem dX0_endBoat_50 : decode cX0_endBoat 50 = .ok (.aload_n 0, 1) := by decide +kernel
theorem dX0_endBoat_51 : decode cX0_endBoat 51 = .ok (.dup, 1) := by decide +kernel
theorem dX0_endBoat_52 : decode cX0_endBoat 52 = .ok (.getfield 70, 3) := by decide +kernel
theorem dX0_endBoat_55 : decode cX0_endBoat 55 = .ok (.iconst 1, 1) := by decide +kernel
theorem dX0_endBoat_56 : decode cX0_endBoat 56 = .ok (.iadd, 1) := by decide +kernel
theorem dX0_endBoat_57 : decode cX0_endBoat 57 = .ok (.putfield 70, 3) := by decide +kernel
theorem dX0_endBoat_60 : decode cX0_endBoat 60 = .ok (.return_, 1) := by decide +kernel
theorem dX1_init_0 : decode cX1_init 0 = .ok (.aload_n 0, 1) := by decide +kernel
theorem dX1_init_1 : decode cX1_init 1 = .ok (.invokespecial 3, 3) := by decide +kernel
theorem dX1_init_4 : decode cX1_init 4 = .ok (.aload_n 0, 1) := by decide +kernel
theorem dX1_init_5 : decode cX1_init 5 = .ok (.new 9, 3) := by decide +kernel
theorem dX1_init_8 : decode cX1_init 8 = .ok (.dup, 1) := by decide +kernel
theorem dX1_init_9 : decode cX1_init 9 = .ok (.invokespecial 11, 3) := by decide +kernel
theorem dX1_init_12 : decode cX1_init 12 = .ok (.putfield 12, 3) := by decide +kernel
theorem dX1_init_15 : decode cX1_init 15 = .ok (.aload_n 0, 1) := by decide +kernel
theorem dX1_init_16 : decode cX1_init 16 = .ok (.aload_n 1, 1) := by decide +kernel
theorem dX1_init_17 : decode cX1_init 17 = .ok (.putfield 18, 3) := by decide +kernel
theorem dX1_init_20 : decode cX1_init 20 = .ok (.return_, 1) := by decide +kernel
theorem dX1_read_0 : decode cX1_read 0 = .ok (.aload_n 0, 1) := by decide +kernel
theorem dX1_read_1 : decode cX1_read 1 = .ok (.invokevirtual 22, 3) := by decide +kernel
theorem dX1_read_4 : decode cX1_read 4 = .ok (.iconst 0, 1) := by decide +kernel
theorem dX1_read_5 : decode cX1_read 5 = .ok (.istore_n 1, 1) := by decide +kernel
theorem dX1_read_6 : decode cX1_read 6 = .ok (.iload_n 1, 1) := by decide +kernel
theorem dX1_read_7 : decode cX1_read 7 = .ok (.sipush 700, 3) := by decide +kernel
theorem dX1_read_10 : decode cX1_read 10 = .ok (.if_icmp .ge 103, 3) := by decide +kernel
theorem dX1_read_13 : decode cX1_read 13 = .ok (.aload_n 0, 1) := by decide +kernel
theorem dX1_read_14 : decode cX1_read 14 = .ok (.getfield 18, 3) := by decide +kernel
theorem dX1_read_17 : decode cX1_read 17 = .ok (.invokevirtual 25, 3) := by decide +kernel
theorem dX1_read_20 : decode cX1_read 20 = .ok (.ifCond .eq 93, 3) := by decide +kernel
theorem dX1_read_23 : decode cX1_read 23 = .ok (.aload_n 0, 1) := by decide +kernel
theorem dX1_read_24 : decode cX1_read 24 = .ok (.getfield 18, 3) := by decide +kernel
theorem dX1_read_27 : decode cX1_read 27 = .ok (.ldc 31, 2) := by decide +kernel
theorem dX1_read_29 : decode cX1_read 29 = .ok (.invokevirtual 33, 3) := by decide +kernel
theorem dX1_read_32 : decode cX1_read 32 = .ok (.ifCond .eq 10, 3) := by decide +kernel
theorem dX1_read_35 : decode cX1_read 35 = .ok (.aload_n 0, 1) := by decide +kernel
theorem dX1_read_36 : decode cX1_read 36 = .ok (.invokevirtual 37, 3) := by decide +kernel
theorem dX1_read_39 : decode cX1_read 39 = .ok (.goto 68, 3) := by decide +kernel
theorem dX1_read_42 : decode cX1_read 42 = .ok (.aload_n 0, 1) := by decide +kernel
theorem dX1_read_43 : decode cX1_read 43 = .ok (.getfield 18, 3) := by decide +kernel
theorem dX1_read_46 : decode cX1_read 46 = .ok (.ldc 40, 2) := by decide +kernel
theorem dX1_read_48 : decode cX1_read 48 = .ok (.invokevirtual 33, 3) := by decide +kernel
theorem dX1_read_51 : decode cX1_read 51 = .ok (.ifCond .eq 10, 3) := by decide +kernel
theorem dX1_read_54 : decode cX1_read 54 = .ok (.aload_n 0, 1) := by decide +kernel
theorem dX1_read_55 : decode cX1_read 55 = .ok (.invokevirtual 42, 3) := by decide +kernel
theorem dX1_read_58 : decode cX1_read 58 = .ok (.goto 49, 3) := by decide +kernel
theorem dX1_read_61 : decode cX1_read 61 = .ok (.aload_n 0, 1) := by decide +kernel
theorem dX1_read_62 : decode cX1_read 62 = .ok (.getfield 18, 3) := by decide +kernel
theorem dX1_read_65 : decode cX1_read 65 = .ok (.ldc 45, 2) := by decide +kernel
theorem dX1_read_67 : decode cX1_read 67 = .ok (.invokevirtual 33, 3) := by decide +kernel
theorem dX1_read_70 : decode cX1_read 70 = .ok (.ifCond .eq 10, 3) := by decide +kernel
theorem dX1_read_73 : decode cX1_read 73 = .ok (.aload_n 0, 1) := by decide +kernel
theorem dX1_read_74 : decode cX1_read 74 = .ok (.invokevirtual 47, 3) := by decide +kernel
theorem dX1_read_77 : decode cX1_read 77 = .ok (.goto 30, 3) := by decide +kernel
theorem dX1_read_80 : decode cX1_read 80 = .ok (.aload_n 0, 1) := by decide +kernel
theorem dX1_read_81 : decode cX1_read 81 = .ok (.getfield 18, 3) := by decide +kernel
theorem dX1_read_84 : decode cX1_read 84 = .ok (.ldc 50, 2) := by decide +kernel
theorem dX1_read_86 : decode cX1_read 86 = .ok (.invokevirtual 33, 3) := by decide +kernel
theorem dX1_read_89 : decode cX1_read 89 = .ok (.ifCond .eq 10, 3) := by decide +kernel
theorem dX1_read_92 : decode cX1_read 92 = .ok (.aload_n 0, 1) := by decide +kernel
theorem dX1_read_93 : decode cX1_read 93 = .ok (.invokevirtual 52, 3) := by decide +kernel
theorem dX1_read_96 : decode cX1_read 96 = .ok (.goto 11, 3) := by decide +kernel
theorem dX1_read_99 : decode cX1_read 99 = .ok (.aload_n 0, 1) := by decide +kernel
theorem dX1_read_100 : decode cX1_read 100 = .ok (.getfield 18, 3) := by decide +kernel
theorem dX1_read_103 : decode cX1_read 103 = .ok (.iconst 1, 1) := by decide +kernel
theorem dX1_read_104 : decode cX1_read 104 = .ok (.invokevirtual 55, 3) := by decide +kernel
theorem dX1_read_107 : decode cX1_read 107 = .ok (.iinc 1 1, 3) := by decide +kernel
theorem dX1_read_110 : decode cX1_read 110 = .ok (.goto (-104), 3) := by decide +kernel
theorem dX1_read_113 : decode cX1_read 113 = .ok (.return_, 1) := by decide +kernel
theorem dX1_readHead_0 : decode cX1_readHead 0 = .ok (.aload_n 0, 1) := by decide +kernel
theorem dX1_readHead_1 : decode cX1_readHead 1 = .ok (.getfield 18, 3) := by decide +kernel
theorem dX1_readHead_4 : decode cX1_readHead 4 = .ok (.ldc 59, 2) := by decide +kernel
theorem dX1_readHead_6 : decode cX1_readHead 6 = .ok (.invokevirtual 60, 3) := by decide +kernel
theorem dX1_readHead_9 : decode cX1_readHead 9 = .ok (.ifCond .ne 11, 3) := by decide +kernel
theorem dX1_readHead_12 : decode cX1_readHead 12 = .ok (.aload_n 0, 1) := by decide +kernel
theorem dX1_readHead_13 : decode cX1_readHead 13 = .ok (.getfield 18, 3) := by decide +kernel
theorem dX1_readHead_16 : decode cX1_readHead 16 = .ok (.iconst 1, 1) := by decide +kernel
theorem dX1_readHead_17 : decode cX1_readHead 17 = .ok (.invokevirtual 55, 3) := by decide +kernel
theorem dX1_readHead_20 : decode cX1_readHead 20 = .ok (.aload_n 0, 1) := by decide +kernel
theorem dX1_readHead_21 : decode cX1_readHead 21 = .ok (.getfield 18, 3) := by decide +kernel
theorem dX1_readHead_24 : decode cX1_readHead 24 = .ok (.iconst 3, 1) := by decide +kernel
theorem dX1_readHead_25 : decode cX1_readHead 25 = .ok (.bipush 10, 2) := by decide +kernel
theorem dX1_readHead_27 : decode cX1_readHead 27 = .ok (.invokevirtual 63, 3) := by decide +kernel
theorem dX1_readHead_30 : decode cX1_readHead 30 = .ok (.istore_n 1, 1) := by decide +kernel
theorem dX1_readHead_31 : decode cX1_readHead 31 = .ok (.aload_n 0, 1) := by decide +kernel
theorem dX1_readHead_32 : decode cX1_readHead 32 = .ok (.getfield 18, 3) := by decide +kernel
theorem dX1_readHead_35 : decode cX1_readHead 35 = .ok (.iconst 3, 1) := by decide +kernel
theorem dX1_readHead_36 : decode cX1_readHead 36 = .ok (.bipush 10, 2) := by decide +kernel
theorem dX1_readHead_38 : decode cX1_readHead 38 = .ok (.invokevirtual 63, 3) := by decide +kernel
theorem dX1_readHead_41 : decode cX1_readHead 41 = .ok (.istore_n 2, 1) := by decide +kernel
theorem dX1_readHead_42 : decode cX1_readHead 42 = .ok (.aload_n 0, 1) := by decide +kernel
theorem dX1_readHead_43 : decode cX1_readHead 43 = .ok (.getfield 12, 3) := by decide +kernel
theorem dX1_readHead_46 : decode cX1_readHead 46 = .ok (.iload_n 1, 1) := by decide +kernel
theorem dX1_readHead_47 : decode cX1_readHead 47 = .ok (.iload_n 2, 1) := by decide +kernel
theorem dX1_readHead_48 : decode cX1_readHead 48 = .ok (.invokevirtual 67, 3) := by decide +kernel
theorem dX1_readHead_51 : decode cX1_readHead 51 = .ok (.aload_n 0, 1) := by decide +kernel
theorem dX1_readHead_52 : decode cX1_readHead 52 = .ok (.getfield 18, 3) := by decide +kernel
theorem dX1_readHead_55 : decode cX1_readHead 55 = .ok (.ldc 71, 2) := by decide +kernel
theorem dX1_readHead_57 : decode cX1_readHead 57 = .ok (.invokevirtual 60, 3) := by decide +kernel
theorem dX1_readHead_60 : decode cX1_readHead 60 = .ok (.ifCond .eq 21, 3) := by decide +kernel
theorem dX1_readHead_63 : decode cX1_readHead 63 = .ok (.aload_n 0, 1) := by decide +kernel
theorem dX1_readHead_64 : decode cX1_readHead 64 = .ok (.getfield 12, 3) := by decide +kernel
theorem dX1_readHead_67 : decode cX1_readHead 67 = .ok (.aload_n 0, 1) := by decide +kernel
theorem dX1_readHead_68 : decode cX1_readHead 68 = .ok (.getfield 18, 3) := by decide +kernel
theorem dX1_readHead_71 : decode cX1_readHead 71 = .ok (.iconst 0, 1) := by decide +kernel
theorem dX1_readHead_72 : decode cX1_readHead 72 = .ok (.sipush 1000, 3) := by decide +kernel
theorem dX1_readHead_75 : decode cX1_readHead 75 = .ok (.invokevirtual 63, 3) := by decide +kernel
theorem dX1_readHead_78 : decode cX1_readHead 78 = .ok (.putfield 73, 3) := by decide +kernel
theorem dX1_readHead_81 : decode cX1_readHead 81 = .ok (.aload_n 0, 1) := by decide +kernel
theorem dX1_readHead_82 : decode cX1_readHead 82 = .ok (.getfield 18, 3) := by decide +kernel
theorem dX1_readHead_85 : decode cX1_readHead 85 = .ok (.ldc 76, 2) := by decide +kernel
theorem dX1_readHead_87 : decode cX1_readHead 87 = .ok (.invokevirtual 60, 3) := by decide +kernel
theorem dX1_readHead_90 : decode cX1_readHead 90 = .ok (.ifCond .eq 20, 3) := by decide +kernel
theorem dX1_readHead_93 : decode cX1_readHead 93 = .ok (.aload_n 0, 1) := by decide +kernel
theorem dX1_readHead_94 : decode cX1_readHead 94 = .ok (.getfield 12, 3) := by decide +kernel
theorem dX1_readHead_97 : decode cX1_readHead 97 = .ok (.aload_n 0, 1) := by decide +kernel
theorem dX1_readHead_98 : decode cX1_readHead 98 = .ok (.getfield 18, 3) := by decide +kernel
theorem dX1_readHead_101 : decode cX1_readHead 101 = .ok (.iconst 0, 1) := by decide +kernel
theorem dX1_readHead_102 : decode cX1_readHead 102 = .ok (.bipush 9, 2) := by decide +kernel
theorem dX1_readHead_104 : decode cX1_readHead 104 = .ok (.invokevirtual 63, 3) := by decide +kernel
theorem dX1_readHead_107 : decode cX1_readHead 107 = .ok (.putfield 78, 3) := by decide +kernel
theorem dX1_readHead_110 : decode cX1_readHead 110 = .ok (.aload_n 0, 1) := by decide +kernel
theorem dX1_readHead_111 : decode cX1_readHead 111 = .ok (.getfield 18, 3) := by decide +kernel
theorem dX1_readHead_114 : decode cX1_readHead 114 = .ok (.ldc 80, 2) := by decide +kernel
theorem dX1_readHead_116 : decode cX1_readHead 116 = .ok (.invokevirtual 60, 3) := by decide +kernel
theorem dX1_readHead_119 : decode cX1_readHead 119 = .ok (.ifCond .eq 25, 3) := by decide +kernel
theorem dX1_readHead_122 : decode cX1_readHead 122 = .ok (.aload_n 0, 1) := by decide +kernel
theorem dX1_readHead_123 : decode cX1_readHead 123 = .ok (.getfield 12, 3) := by decide +kernel
theorem dX1_readHead_126 : decode cX1_readHead 126 = .ok (.aload_n 0, 1) := by decide +kernel
theorem dX1_readHead_127 : decode cX1_readHead 127 = .ok (.invokevirtual 82, 3) := by decide +kernel
theorem dX1_readHead_130 : decode cX1_readHead 130 = .ok (.putfield 86, 3) := by decide +kernel
theorem dX1_readHead_133 : decode cX1_readHead 133 = .ok (.aload_n 0, 1) := by decide +kernel
theorem dX1_readHead_134 : decode cX1_readHead 134 = .ok (.getfield 12, 3) := by decide +kernel
theorem dX1_readHead_137 : decode cX1_readHead 137 = .ok (.aload_n 0, 1) := by decide +kernel
theorem dX1_readHead_138 : decode cX1_readHead 138 = .ok (.invokevirtual 82, 3) := by decide +kernel
theorem dX1_readHead_141 : decode cX1_readHead 141 = .ok (.putfield 89, 3) := by decide +kernel
theorem dX1_readHead_144 : decode cX1_readHead 144 = .ok (.aload_n 0, 1) := by decide +kernel
theorem dX1_readHead_145 : decode cX1_readHead 145 = .ok (.getfield 18, 3) := by decide +kernel
theorem dX1_readHead_148 : decode cX1_readHead 148 = .ok (.bipush 59, 2) := by decide +kernel
theorem dX1_readHead_150 : decode cX1_readHead 150 = .ok (.invokevirtual 92, 3) := by decide +kernel
theorem dX1_readHead_153 : decode cX1_readHead 153 = .ok (.return_, 1) := by decide +kernel
theorem dX1_readWind_0 : decode cX1_readWind 0 = .ok (.aload_n 0, 1) := by decide +kernel
theorem dX1_readWind_1 : decode cX1_readWind 1 = .ok (.getfield 18, 3) := by decide +kernel
theorem dX1_readWind_4 : decode cX1_readWind 4 = .ok (.bipush 45, 2) := by decide +kernel
theorem dX1_readWind_6 : decode cX1_readWind 6 = .ok (.invokevirtual 95, 3) := by decide +kernel
theorem dX1_readWind_9 : decode cX1_readWind 9 = .ok (.istore_n 1, 1) := by decide +kernel
theorem dX1_readWind_10 : decode cX1_readWind 10 = .ok (.aload_n 0, 1) := by decide +kernel
theorem dX1_readWind_11 : decode cX1_readWind 11 = .ok (.getfield 18, 3) := by decide +kernel
theorem dX1_readWind_14 : decode cX1_readWind 14 = .ok (.iconst 0, 1) := by decide +kernel
theorem dX1_readWind_15 : decode cX1_readWind 15 = .ok (.bipush 99, 2) := by decide +kernel
theorem dX1_readWind_17 : decode cX1_readWind 17 = .ok (.invokevirtual 63, 3) := by decide +kernel
theorem dX1_readWind_20 : decode cX1_readWind 20 = .ok (.istore_n 2, 1) := by decide +kernel
theorem dX1_readWind_21 : decode cX1_readWind 21 = .ok (.iload_n 1, 1) := by decide +kernel
theorem dX1_readWind_22 : decode cX1_readWind 22 = .ok (.ifCond .eq 8, 3) := by decide +kernel
theorem dX1_readWind_25 : decode cX1_readWind 25 = .ok (.iload_n 2, 1) := by decide +kernel
theorem dX1_readWind_26 : decode cX1_readWind 26 = .ok (.ineg, 1) := by decide +kernel
theorem dX1_readWind_27 : decode cX1_readWind 27 = .ok (.goto 4, 3) := by decide +kernel
theorem dX1_readWind_30 : decode cX1_readWind 30 = .ok (.iload_n 2, 1) := by decide +kernel
theorem dX1_readWind_31 : decode cX1_readWind 31 = .ok (.ireturn, 1) := by decide +kernel
theorem dX1_readDrain_0 : decode cX1_readDrain 0 = .ok (.aload_n 0, 1) := by decide +kernel
theorem dX1_readDrain_1 : decode cX1_readDrain 1 = .ok (.aload_n 0, 1) := by decide +kernel
theorem dX1_readDrain_2 : decode cX1_readDrain 2 = .ok (.getfield 12, 3) := by decide +kernel
theorem dX1_readDrain_5 : decode cX1_readDrain 5 = .ok (.getfield 99, 3) := by decide +kernel
theorem dX1_readDrain_8 : decode cX1_readDrain 8 = .ok (.iconst 5, 1) := by decide +kernel
theorem dX1_readDrain_9 : decode cX1_readDrain 9 = .ok (.invokevirtual 102, 3) := by decide +kernel
theorem dX1_readDrain_12 : decode cX1_readDrain 12 = .ok (.aload_n 0, 1) := by decide +kernel
theorem dX1_readDrain_13 : decode cX1_readDrain 13 = .ok (.getfield 18, 3) := by decide +kernel
theorem dX1_readDrain_16 : decode cX1_readDrain 16 = .ok (.iconst 0, 1) := by decide +kernel
theorem dX1_readDrain_17 : decode cX1_readDrain 17 = .ok (.aload_n 0, 1) := by decide +kernel
theorem dX1_readDrain_18 : decode cX1_readDrain 18 = .ok (.getfield 12, 3) := by decide +kernel
theorem dX1_readDrain_21 : decode cX1_readDrain 21 = .ok (.getfield 105, 3) := by decide +kernel
theorem dX1_readDrain_24 : decode cX1_readDrain 24 = .ok (.iconst 1, 1) := by decide +kernel
theorem dX1_readDrain_25 : decode cX1_readDrain 25 = .ok (.isub, 1) := by decide +kernel
theorem dX1_readDrain_26 : decode cX1_readDrain 26 = .ok (.invokevirtual 63, 3) := by decide +kernel
theorem dX1_readDrain_29 : decode cX1_readDrain 29 = .ok (.istore_n 1, 1) := by decide +kernel
theorem dX1_readDrain_30 : decode cX1_readDrain 30 = .ok (.aload_n 0, 1) := by decide +kernel
theorem dX1_readDrain_31 : decode cX1_readDrain 31 = .ok (.iload_n 1, 1) := by decide +kernel
theorem dX1_readDrain_32 : decode cX1_readDrain 32 = .ok (.invokevirtual 108, 3) := by decide +kernel
theorem dX1_readDrain_35 : decode cX1_readDrain 35 = .ok (.istore_n 2, 1) := by decide +kernel
theorem dX1_readDrain_36 : decode cX1_readDrain 36 = .ok (.aload_n 0, 1) := by decide +kernel
theorem dX1_readDrain_37 : decode cX1_readDrain 37 = .ok (.getfield 18, 3) := by decide +kernel
theorem dX1_readDrain_40 : decode cX1_readDrain 40 = .ok (.iconst 1, 1) := by decide +kernel
theorem dX1_readDrain_41 : decode cX1_readDrain 41 = .ok (.bipush 99, 2) := by decide +kernel
theorem dX1_readDrain_43 : decode cX1_readDrain 43 = .ok (.invokevirtual 63, 3) := by decide +kernel
theorem dX1_readDrain_46 : decode cX1_readDrain 46 = .ok (.istore_n 3, 1) := by decide +kernel
theorem dX1_readDrain_47 : decode cX1_readDrain 47 = .ok (.aload_n 0, 1) := by decide +kernel
theorem dX1_readDrain_48 : decode cX1_readDrain 48 = .ok (.getfield 18, 3) := by decide +kernel
theorem dX1_readDrain_51 : decode cX1_readDrain 51 = .ok (.iconst 0, 1) := by decide +kernel
theorem dX1_readDrain_52 : decode cX1_readDrain 52 = .ok (.bipush 99, 2) := by decide +kernel
theorem dX1_readDrain_54 : decode cX1_readDrain 54 = .ok (.invokevirtual 63, 3) := by decide +kernel
theorem dX1_readDrain_57 : decode cX1_readDrain 57 = .ok (.istore 4, 2) := by decide +kernel
theorem dX1_readDrain_59 : decode cX1_readDrain 59 = .ok (.aload_n 0, 1) := by decide +kernel
theorem dX1_readDrain_60 : decode cX1_readDrain 60 = .ok (.getfield 18, 3) := by decide +kernel
theorem dX1_readDrain_63 : decode cX1_readDrain 63 = .ok (.bipush 59, 2) := by decide +kernel
theorem dX1_readDrain_65 : decode cX1_readDrain 65 = .ok (.invokevirtual 92, 3) := by decide +kernel
theorem dX1_readDrain_68 : decode cX1_readDrain 68 = .ok (.aload_n 0, 1) := by decide +kernel
theorem dX1_readDrain_69 : decode cX1_readDrain 69 = .ok (.getfield 18, 3) := by decide +kernel
theorem dX1_readDrain_72 : decode cX1_readDrain 72 = .ok (.getfield 112, 3) := by decide +kernel
theorem dX1_readDrain_75 : decode cX1_readDrain 75 = .ok (.ifCond .ne 15, 3) := by decide +kernel
theorem dX1_readDrain_78 : decode cX1_readDrain 78 = .ok (.aload_n 0, 1) := by decide +kernel
theorem dX1_readDrain_79 : decode cX1_readDrain 79 = .ok (.getfield 12, 3) := by decide +kernel
theorem dX1_readDrain_82 : decode cX1_readDrain 82 = .ok (.iload_n 1, 1) := by decide +kernel
theorem dX1_readDrain_83 : decode cX1_readDrain 83 = .ok (.iload_n 2, 1) := by decide +kernel
theorem dX1_readDrain_84 : decode cX1_readDrain 84 = .ok (.iload_n 3, 1) := by decide +kernel
theorem dX1_readDrain_85 : decode cX1_readDrain 85 = .ok (.iload 4, 2) := by decide +kernel
theorem dX1_readDrain_87 : decode cX1_readDrain 87 = .ok (.invokevirtual 115, 3) := by decide +kernel
theorem dX1_readDrain_90 : decode cX1_readDrain 90 = .ok (.return_, 1) := by decide +kernel
theorem dX1_readTap_0 : decode cX1_readTap 0 = .ok (.aload_n 0, 1) := by decide +kernel
theorem dX1_readTap_1 : decode cX1_readTap 1 = .ok (.aload_n 0, 1) := by decide +kernel
theorem dX1_readTap_2 : decode cX1_readTap 2 = .ok (.getfield 12, 3) := by decide +kernel
theorem dX1_readTap_5 : decode cX1_readTap 5 = .ok (.getfield 119, 3) := by decide +kernel
theorem dX1_readTap_8 : decode cX1_readTap 8 = .ok (.iconst 5, 1) := by decide +kernel
theorem dX1_readTap_9 : decode cX1_readTap 9 = .ok (.invokevirtual 102, 3) := by decide +kernel
theorem dX1_readTap_12 : decode cX1_readTap 12 = .ok (.aload_n 0, 1) := by decide +kernel
theorem dX1_readTap_13 : decode cX1_readTap 13 = .ok (.getfield 18, 3) := by decide +kernel
theorem dX1_readTap_16 : decode cX1_readTap 16 = .ok (.iconst 0, 1) := by decide +kernel
theorem dX1_readTap_17 : decode cX1_readTap 17 = .ok (.aload_n 0, 1) := by decide +kernel
theorem dX1_readTap_18 : decode cX1_readTap 18 = .ok (.getfield 12, 3) := by decide +kernel
theorem dX1_readTap_21 : decode cX1_readTap 21 = .ok (.getfield 105, 3) := by decide +kernel
theorem dX1_readTap_24 : decode cX1_readTap 24 = .ok (.iconst 1, 1) := by decide +kernel
theorem dX1_readTap_25 : decode cX1_readTap 25 = .ok (.isub, 1) := by decide +kernel
theorem dX1_readTap_26 : decode cX1_readTap 26 = .ok (.invokevirtual 63, 3) := by decide +kernel
theorem dX1_readTap_29 : decode cX1_readTap 29 = .ok (.istore_n 1, 1) := by decide +kernel
theorem dX1_readTap_30 : decode cX1_readTap 30 = .ok (.aload_n 0, 1) := by decide +kernel
theorem dX1_readTap_31 : decode cX1_readTap 31 = .ok (.iload_n 1, 1) := by decide +kernel
theorem dX1_readTap_32 : decode cX1_readTap 32 = .ok (.invokevirtual 108, 3) := by decide +kernel
theorem dX1_readTap_35 : decode cX1_readTap 35 = .ok (.istore_n 2, 1) := by decide +kernel
theorem dX1_readTap_36 : decode cX1_readTap 36 = .ok (.aload_n 0, 1) := by decide +kernel
theorem dX1_readTap_37 : decode cX1_readTap 37 = .ok (.getfield 18, 3) := by decide +kernel
theorem dX1_readTap_40 : decode cX1_readTap 40 = .ok (.iconst 0, 1) := by decide +kernel
theorem dX1_readTap_41 : decode cX1_readTap 41 = .ok (.bipush 99, 2) := by decide +kernel
theorem dX1_readTap_43 : decode cX1_readTap 43 = .ok (.invokevirtual 63, 3) := by decide +kernel
theorem dX1_readTap_46 : decode cX1_readTap 46 = .ok (.istore_n 3, 1) := by decide +kernel
theorem dX1_readTap_47 : decode cX1_readTap 47 = .ok (.aload_n 0, 1) := by decide +kernel
theorem dX1_readTap_48 : decode cX1_readTap 48 = .ok (.getfield 18, 3) := by decide +kernel
theorem dX1_readTap_51 : decode cX1_readTap 51 = .ok (.bipush 59, 2) := by decide +kernel
theorem dX1_readTap_53 : decode cX1_readTap 53 = .ok (.invokevirtual 92, 3) := by decide +kernel
theorem dX1_readTap_56 : decode cX1_readTap 56 = .ok (.aload_n 0, 1) := by decide +kernel
theorem dX1_readTap_57 : decode cX1_readTap 57 = .ok (.getfield 18, 3) := by decide +kernel
theorem dX1_readTap_60 : decode cX1_readTap 60 = .ok (.getfield 112, 3) := by decide +kernel
theorem dX1_readTap_63 : decode cX1_readTap 63 = .ok (.ifCond .ne 13, 3) := by decide +kernel
theorem dX1_readTap_66 : decode cX1_readTap 66 = .ok (.aload_n 0, 1) := by decide +kernel
theorem dX1_readTap_67 : decode cX1_readTap 67 = .ok (.getfield 12, 3) := by decide +kernel
theorem dX1_readTap_70 : decode cX1_readTap 70 = .ok (.iload_n 1, 1) := by decide +kernel
theorem dX1_readTap_71 : decode cX1_readTap 71 = .ok (.iload_n 2, 1) := by decide +kernel
theorem dX1_readTap_72 : decode cX1_readTap 72 = .ok (.iload_n 3, 1) := by decide +kernel
theorem dX1_readTap_73 : decode cX1_readTap 73 = .ok (.invokevirtual 122, 3) := by decide +kernel
theorem dX1_readTap_76 : decode cX1_readTap 76 = .ok (.return_, 1) := by decide +kernel
theorem dX1_readBoat_0 : decode cX1_readBoat 0 = .ok (.aload_n 0, 1) := by decide +kernel
theorem dX1_readBoat_1 : decode cX1_readBoat 1 = .ok (.aload_n 0, 1) := by decide +kernel
theorem dX1_readBoat_2 : decode cX1_readBoat 2 = .ok (.getfield 12, 3) := by decide +kernel
theorem dX1_readBoat_5 : decode cX1_readBoat 5 = .ok (.getfield 126, 3) := by decide +kernel
theorem dX1_readBoat_8 : decode cX1_readBoat 8 = .ok (.bipush 12, 2) := by decide +kernel
theorem dX1_readBoat_10 : decode cX1_readBoat 10 = .ok (.invokevirtual 102, 3) := by decide +kernel
theorem dX1_readBoat_13 : decode cX1_readBoat 13 = .ok (.aload_n 0, 1) := by decide +kernel
theorem dX1_readBoat_14 : decode cX1_readBoat 14 = .ok (.getfield 18, 3) := by decide +kernel
theorem dX1_readBoat_17 : decode cX1_readBoat 17 = .ok (.iconst 0, 1) := by decide +kernel
theorem dX1_readBoat_18 : decode cX1_readBoat 18 = .ok (.aload_n 0, 1) := by decide +kernel
theorem dX1_readBoat_19 : decode cX1_readBoat 19 = .ok (.getfield 12, 3) := by decide +kernel
theorem dX1_readBoat_22 : decode cX1_readBoat 22 = .ok (.getfield 105, 3) := by decide +kernel
theorem dX1_readBoat_25 : decode cX1_readBoat 25 = .ok (.iconst 1, 1) := by decide +kernel
theorem dX1_readBoat_26 : decode cX1_readBoat 26 = .ok (.isub, 1) := by decide +kernel
theorem dX1_readBoat_27 : decode cX1_readBoat 27 = .ok (.invokevirtual 63, 3) := by decide +kernel
theorem dX1_readBoat_30 : decode cX1_readBoat 30 = .ok (.istore_n 1, 1) := by decide +kernel
theorem dX1_readBoat_31 : decode cX1_readBoat 31 = .ok (.aload_n 0, 1) := by decide +kernel
theorem dX1_readBoat_32 : decode cX1_readBoat 32 = .ok (.getfield 18, 3) := by decide +kernel
theorem dX1_readBoat_35 : decode cX1_readBoat 35 = .ok (.iconst 0, 1) := by decide +kernel
theorem dX1_readBoat_36 : decode cX1_readBoat 36 = .ok (.aload_n 0, 1) := by decide +kernel
theorem dX1_readBoat_37 : decode cX1_readBoat 37 = .ok (.getfield 12, 3) := by decide +kernel
theorem dX1_readBoat_40 : decode cX1_readBoat 40 = .ok (.getfield 129, 3) := by decide +kernel
theorem dX1_readBoat_43 : decode cX1_readBoat 43 = .ok (.iconst 1, 1) := by decide +kernel
theorem dX1_readBoat_44 : decode cX1_readBoat 44 = .ok (.isub, 1) := by decide +kernel
theorem dX1_readBoat_45 : decode cX1_readBoat 45 = .ok (.invokevirtual 132, 3) := by decide +kernel
theorem dX1_readBoat_48 : decode cX1_readBoat 48 = .ok (.istore_n 2, 1) := by decide +kernel
theorem dX1_readBoat_49 : decode cX1_readBoat 49 = .ok (.aload_n 0, 1) := by decide +kernel
theorem dX1_readBoat_50 : decode cX1_readBoat 50 = .ok (.aload_n 0, 1) := by decide +kernel
theorem dX1_readBoat_51 : decode cX1_readBoat 51 = .ok (.getfield 12, 3) := by decide +kernel
theorem dX1_readBoat_54 : decode cX1_readBoat 54 = .ok (.getfield 135, 3) := by decide +kernel
theorem dX1_readBoat_57 : decode cX1_readBoat 57 = .ok (.aload_n 0, 1) := by decide +kernel
theorem dX1_readBoat_58 : decode cX1_readBoat 58 = .ok (.getfield 12, 3) := by decide +kernel
theorem dX1_readBoat_61 : decode cX1_readBoat 61 = .ok (.iload_n 1, 1) := by decide +kernel
theorem dX1_readBoat_62 : decode cX1_readBoat 62 = .ok (.iload_n 2, 1) := by decide +kernel
theorem dX1_readBoat_63 : decode cX1_readBoat 63 = .ok (.invokevirtual 139, 3) := by decide +kernel
theorem dX1_readBoat_66 : decode cX1_readBoat 66 = .ok (.invokevirtual 142, 3) := by decide +kernel
theorem dX1_readBoat_69 : decode cX1_readBoat 69 = .ok (.iconst (-1), 1) := by decide +kernel
theorem dX1_readBoat_70 : decode cX1_readBoat 70 = .ok (.if_icmp .eq 7, 3) := by decide +kernel
theorem dX1_readBoat_73 : decode cX1_readBoat 73 = .ok (.iconst 1, 1) := by decide +kernel
theorem dX1_readBoat_74 : decode cX1_readBoat 74 = .ok (.goto 4, 3) := by decide +kernel
theorem dX1_readBoat_77 : decode cX1_readBoat 77 = .ok (.iconst 0, 1) := by decide +kernel
theorem dX1_readBoat_78 : decode cX1_readBoat 78 = .ok (.invokevirtual 147, 3) := by decide +kernel
theorem dX1_readBoat_81 : decode cX1_readBoat 81 = .ok (.aload_n 0, 1) := by decide +kernel
theorem dX1_readBoat_82 : decode cX1_readBoat 82 = .ok (.getfield 18, 3) := by decide +kernel
theorem dX1_readBoat_85 : decode cX1_readBoat 85 = .ok (.iconst 1, 1) := by decide +kernel
theorem dX1_readBoat_86 : decode cX1_readBoat 86 = .ok (.bipush 99, 2) := by decide +kernel
theorem dX1_readBoat_88 : decode cX1_readBoat 88 = .ok (.invokevirtual 63, 3) := by decide +kernel
theorem dX1_readBoat_91 : decode cX1_readBoat 91 = .ok (.istore_n 3, 1) := by decide +kernel
theorem dX1_readBoat_92 : decode cX1_readBoat 92 = .ok (.aload_n 0, 1) := by decide +kernel
theorem dX1_readBoat_93 : decode cX1_readBoat 93 = .ok (.getfield 18, 3) := by decide +kernel
theorem dX1_readBoat_96 : decode cX1_readBoat 96 = .ok (.iconst 1, 1) := by decide +kernel
theorem dX1_readBoat_97 : decode cX1_readBoat 97 = .ok (.sipush 999, 3) := by decide +kernel
theorem dX1_readBoat_100 : decode cX1_readBoat 100 = .ok (.invokevirtual 63, 3) := by decide +kernel
theorem dX1_readBoat_103 : decode cX1_readBoat 103 = .ok (.istore 4, 2) := by decide +kernel
theorem dX1_readBoat_105 : decode cX1_readBoat 105 = .ok (.aload_n 0, 1) := by decide +kernel
theorem dX1_readBoat_106 : decode cX1_readBoat 106 = .ok (.getfield 18, 3) := by decide +kernel
theorem dX1_readBoat_109 : decode cX1_readBoat 109 = .ok (.ldc 151, 2) := by decide +kernel
theorem dX1_readBoat_111 : decode cX1_readBoat 111 = .ok (.invokevirtual 60, 3) := by decide +kernel
theorem dX1_readBoat_114 : decode cX1_readBoat 114 = .ok (.ifCond .eq 16, 3) := by decide +kernel
theorem dX1_readBoat_117 : decode cX1_readBoat 117 = .ok (.aload_n 0, 1) := by decide +kernel
theorem dX1_readBoat_118 : decode cX1_readBoat 118 = .ok (.getfield 18, 3) := by decide +kernel
theorem dX1_readBoat_121 : decode cX1_readBoat 121 = .ok (.iconst 0, 1) := by decide +kernel
theorem dX1_readBoat_122 : decode cX1_readBoat 122 = .ok (.iload 4, 2) := by decide +kernel
theorem dX1_readBoat_124 : decode cX1_readBoat 124 = .ok (.invokevirtual 63, 3) := by decide +kernel
theorem dX1_readBoat_127 : decode cX1_readBoat 127 = .ok (.goto 4, 3) := by decide +kernel
theorem dX1_readBoat_130 : decode cX1_readBoat 130 = .ok (.iconst 0, 1) := by decide +kernel
theorem dX1_readBoat_131 : decode cX1_readBoat 131 = .ok (.istore 5, 2) := by decide +kernel
theorem dX1_readBoat_133 : decode cX1_readBoat 133 = .ok (.aload_n 0, 1) := by decide +kernel
theorem dX1_readBoat_134 : decode cX1_readBoat 134 = .ok (.getfield 18, 3) := by decide +kernel
theorem dX1_readBoat_137 : decode cX1_readBoat 137 = .ok (.bipush 59, 2) := by decide +kernel
theorem dX1_readBoat_139 : decode cX1_readBoat 139 = .ok (.invokevirtual 92, 3) := by decide +kernel
theorem dX1_readBoat_142 : decode cX1_readBoat 142 = .ok (.aload_n 0, 1) := by decide +kernel
theorem dX1_readBoat_143 : decode cX1_readBoat 143 = .ok (.getfield 18, 3) := by decide +kernel
theorem dX1_readBoat_146 : decode cX1_readBoat 146 = .ok (.getfield 112, 3) := by decide +kernel
theorem dX1_readBoat_149 : decode cX1_readBoat 149 = .ok (.ifCond .ne 37, 3) := by decide +kernel
theorem dX1_readBoat_152 : decode cX1_readBoat 152 = .ok (.aload_n 0, 1) := by decide +kernel
theorem dX1_readBoat_153 : decode cX1_readBoat 153 = .ok (.getfield 12, 3) := by decide +kernel
theorem dX1_readBoat_156 : decode cX1_readBoat 156 = .ok (.iload_n 1, 1) := by decide +kernel
theorem dX1_readBoat_157 : decode cX1_readBoat 157 = .ok (.iload_n 2, 1) := by decide +kernel
theorem dX1_readBoat_158 : decode cX1_readBoat 158 = .ok (.iload_n 3, 1) := by decide +kernel
theorem dX1_readBoat_159 : decode cX1_readBoat 159 = .ok (.iload 4, 2) := by decide +kernel
theorem dX1_readBoat_161 : decode cX1_readBoat 161 = .ok (.invokevirtual 153, 3) := by decide +kernel
theorem dX1_readBoat_164 : decode cX1_readBoat 164 = .ok (.aload_n 0, 1) := by decide +kernel
theorem dX1_readBoat_165 : decode cX1_readBoat 165 = .ok (.getfield 12, 3) := by decide +kernel
theorem dX1_readBoat_168 : decode cX1_readBoat 168 = .ok (.getfield 156, 3) := by decide +kernel
theorem dX1_readBoat_171 : decode cX1_readBoat 171 = .ok (.aload_n 0, 1) := by decide +kernel
theorem dX1_readBoat_172 : decode cX1_readBoat 172 = .ok (.getfield 12, 3) := by decide +kernel
theorem dX1_readBoat_175 : decode cX1_readBoat 175 = .ok (.getfield 126, 3) := by decide +kernel
theorem dX1_readBoat_178 : decode cX1_readBoat 178 = .ok (.iconst 1, 1) := by decide +kernel
theorem dX1_readBoat_179 : decode cX1_readBoat 179 = .ok (.isub, 1) := by decide +kernel
theorem dX1_readBoat_180 : decode cX1_readBoat 180 = .ok (.iconst 4, 1) := by decide +kernel
theorem dX1_readBoat_181 : decode cX1_readBoat 181 = .ok (.iload 5, 2) := by decide +kernel
theorem dX1_readBoat_183 : decode cX1_readBoat 183 = .ok (.invokevirtual 160, 3) := by decide +kernel
theorem dX1_readBoat_186 : decode cX1_readBoat 186 = .ok (.return_, 1) := by decide +kernel
theorem dX1_readSoap_0 : decode cX1_readSoap 0 = .ok (.aload_n 0, 1) := by decide +kernel
theorem dX1_readSoap_1 : decode cX1_readSoap 1 = .ok (.getfield 18, 3) := by decide +kernel
theorem dX1_readSoap_4 : decode cX1_readSoap 4 = .ok (.invokevirtual 165, 3) := by decide +kernel
theorem dX1_readSoap_7 : decode cX1_readSoap 7 = .ok (.aload_n 0, 1) := by decide +kernel
theorem dX1_readSoap_8 : decode cX1_readSoap 8 = .ok (.getfield 18, 3) := by decide +kernel
theorem dX1_readSoap_11 : decode cX1_readSoap 11 = .ok (.iconst 0, 1) := by decide +kernel
theorem dX1_readSoap_12 : decode cX1_readSoap 12 = .ok (.aload_n 0, 1) := by decide +kernel
theorem dX1_readSoap_13 : decode cX1_readSoap 13 = .ok (.getfield 12, 3) := by decide +kernel
theorem dX1_readSoap_16 : decode cX1_readSoap 16 = .ok (.getfield 105, 3) := by decide +kernel
theorem dX1_readSoap_19 : decode cX1_readSoap 19 = .ok (.iconst 1, 1) := by decide +kernel
theorem dX1_readSoap_20 : decode cX1_readSoap 20 = .ok (.isub, 1) := by decide +kernel
theorem dX1_readSoap_21 : decode cX1_readSoap 21 = .ok (.invokevirtual 63, 3) := by decide +kernel
theorem dX1_readSoap_24 : decode cX1_readSoap 24 = .ok (.istore_n 1, 1) := by decide +kernel
theorem dX1_readSoap_25 : decode cX1_readSoap 25 = .ok (.aload_n 0, 1) := by decide +kernel
theorem dX1_readSoap_26 : decode cX1_readSoap 26 = .ok (.getfield 18, 3) := by decide +kernel
theorem dX1_readSoap_29 : decode cX1_readSoap 29 = .ok (.iconst 0, 1) := by decide +kernel
theorem dX1_readSoap_30 : decode cX1_readSoap 30 = .ok (.aload_n 0, 1) := by decide +kernel
theorem dX1_readSoap_31 : decode cX1_readSoap 31 = .ok (.getfield 12, 3) := by decide +kernel
theorem dX1_readSoap_34 : decode cX1_readSoap 34 = .ok (.getfield 129, 3) := by decide +kernel
theorem dX1_readSoap_37 : decode cX1_readSoap 37 = .ok (.iconst 1, 1) := by decide +kernel
theorem dX1_readSoap_38 : decode cX1_readSoap 38 = .ok (.isub, 1) := by decide +kernel
theorem dX1_readSoap_39 : decode cX1_readSoap 39 = .ok (.invokevirtual 63, 3) := by decide +kernel
theorem dX1_readSoap_42 : decode cX1_readSoap 42 = .ok (.istore_n 2, 1) := by decide +kernel
theorem dX1_readSoap_43 : decode cX1_readSoap 43 = .ok (.aload_n 0, 1) := by decide +kernel
theorem dX1_readSoap_44 : decode cX1_readSoap 44 = .ok (.getfield 18, 3) := by decide +kernel
theorem dX1_readSoap_47 : decode cX1_readSoap 47 = .ok (.iconst 1, 1) := by decide +kernel
theorem dX1_readSoap_48 : decode cX1_readSoap 48 = .ok (.bipush 99, 2) := by decide +kernel
theorem dX1_readSoap_50 : decode cX1_readSoap 50 = .ok (.invokevirtual 63, 3) := by decide +kernel
theorem dX1_readSoap_53 : decode cX1_readSoap 53 = .ok (.istore_n 3, 1) := by decide +kernel
theorem dX1_readSoap_54 : decode cX1_readSoap 54 = .ok (.aload_n 0, 1) := by decide +kernel
theorem dX1_readSoap_55 : decode cX1_readSoap 55 = .ok (.getfield 18, 3) := by decide +kernel
theorem dX1_readSoap_58 : decode cX1_readSoap 58 = .ok (.bipush 59, 2) := by decide +kernel
theorem dX1_readSoap_60 : decode cX1_readSoap 60 = .ok (.invokevirtual 92, 3) := by decide +kernel
theorem dX1_readSoap_63 : decode cX1_readSoap 63 = .ok (.aload_n 0, 1) := by decide +kernel
theorem dX1_readSoap_64 : decode cX1_readSoap 64 = .ok (.getfield 12, 3) := by decide +kernel
theorem dX1_readSoap_67 : decode cX1_readSoap 67 = .ok (.getfield 168, 3) := by decide +kernel
theorem dX1_readSoap_70 : decode cX1_readSoap 70 = .ok (.aload_n 0, 1) := by decide +kernel
theorem dX1_readSoap_71 : decode cX1_readSoap 71 = .ok (.getfield 12, 3) := by decide +kernel
theorem dX1_readSoap_74 : decode cX1_readSoap 74 = .ok (.iload_n 1, 1) := by decide +kernel
theorem dX1_readSoap_75 : decode cX1_readSoap 75 = .ok (.iload_n 2, 1) := by decide +kernel
theorem dX1_readSoap_76 : decode cX1_readSoap 76 = .ok (.invokevirtual 139, 3) := by decide +kernel
theorem dX1_readSoap_79 : decode cX1_readSoap 79 = .ok (.iload_n 3, 1) := by decide +kernel
theorem dX1_readSoap_80 : decode cX1_readSoap 80 = .ok (.invokevirtual 171, 3) := by decide +kernel
theorem dX1_readSoap_83 : decode cX1_readSoap 83 = .ok (.return_, 1) := by decide +kernel
theorem dX1_readKeyword_0 : decode cX1_readKeyword 0 = .ok (.iload_n 1, 1) := by decide +kernel
theorem dX1_readKeyword_1 : decode cX1_readKeyword 1 = .ok (.iload_n 2, 1) := by decide +kernel
theorem dX1_readKeyword_2 : decode cX1_readKeyword 2 = .ok (.if_icmp .lt 11, 3) := by decide +kernel
theorem dX1_readKeyword_5 : decode cX1_readKeyword 5 = .ok (.aload_n 0, 1) := by decide +kernel
theorem dX1_readKeyword_6 : decode cX1_readKeyword 6 = .ok (.getfield 18, 3) := by decide +kernel
theorem dX1_readKeyword_9 : decode cX1_readKeyword 9 = .ok (.iconst 3, 1) := by decide +kernel
theorem dX1_readKeyword_10 : decode cX1_readKeyword 10 = .ok (.invokevirtual 55, 3) := by decide +kernel
theorem dX1_readKeyword_13 : decode cX1_readKeyword 13 = .ok (.aload_n 0, 1) := by decide +kernel
theorem dX1_readKeyword_14 : decode cX1_readKeyword 14 = .ok (.getfield 18, 3) := by decide +kernel
theorem dX1_readKeyword_17 : decode cX1_readKeyword 17 = .ok (.invokevirtual 165, 3) := by decide +kernel
theorem dX1_readKeyword_20 : decode cX1_readKeyword 20 = .ok (.return_, 1) := by decide +kernel
theorem dX1_readRowForSource_0 : decode cX1_readRowForSource 0 = .ok (.aload_n 0, 1) := by decide +kernel
theorem dX1_readRowForSource_1 : decode cX1_readRowForSource 1 = .ok (.getfield 18, 3) := by decide +kernel
theorem dX1_readRowForSource_4 : decode cX1_readRowForSource 4 = .ok (.iconst 0, 1) := by decide +kernel
theorem dX1_readRowForSource_5 : decode cX1_readRowForSource 5 = .ok (.aload_n 0, 1) := by decide +kernel
theorem dX1_readRowForSource_6 : decode cX1_readRowForSource 6 = .ok (.getfield 12, 3) := by decide +kernel
theorem dX1_readRowForSource_9 : decode cX1_readRowForSource 9 = .ok (.getfield 129, 3) := by decide +kernel
theorem dX1_readRowForSource_12 : decode cX1_readRowForSource 12 = .ok (.iconst 1, 1) := by decide +kernel
theorem dX1_readRowForSource_13 : decode cX1_readRowForSource 13 = .ok (.isub, 1) := by decide +kernel
theorem dX1_readRowForSource_14 : decode cX1_readRowForSource 14 = .ok (.invokevirtual 132, 3) := by decide +kernel
theorem dX1_readRowForSource_17 : decode cX1_readRowForSource 17 = .ok (.istore_n 2, 1) := by decide +kernel
theorem dX1_readRowForSource_18 : decode cX1_readRowForSource 18 = .ok (.aload_n 0, 1) := by decide +kernel
theorem dX1_readRowForSource_19 : decode cX1_readRowForSource 19 = .ok (.getfield 12, 3) := by decide +kernel
theorem dX1_readRowForSource_22 : decode cX1_readRowForSource 22 = .ok (.iload_n 1, 1) := by decide +kernel
theorem dX1_readRowForSource_23 : decode cX1_readRowForSource 23 = .ok (.iload_n 2, 1) := by decide +kernel
theorem dX1_readRowForSource_24 : decode cX1_readRowForSource 24 = .ok (.invokevirtual 139, 3) := by decide +kernel
theorem dX1_readRowForSource_27 : decode cX1_readRowForSource 27 = .ok (.istore_n 3, 1) := by decide +kernel
theorem dX1_readRowForSource_28 : decode cX1_readRowForSource 28 = .ok (.aload_n 0, 1) := by decide +kernel
theorem dX1_readRowForSource_29 : decode cX1_readRowForSource 29 = .ok (.aload_n 0, 1) := by decide +kernel
theorem dX1_readRowForSource_30 : decode cX1_readRowForSource 30 = .ok (.getfield 12, 3) := by decide +kernel
theorem dX1_readRowForSource_33 : decode cX1_readRowForSource 33 = .ok (.iload_n 3, 1) := by decide +kernel
theorem dX1_readRowForSource_34 : decode cX1_readRowForSource 34 = .ok (.invokevirtual 173, 3) := by decide +kernel
theorem dX1_readRowForSource_37 : decode cX1_readRowForSource 37 = .ok (.iconst (-1), 1) := by decide +kernel
theorem dX1_readRowForSource_38 : decode cX1_readRowForSource 38 = .ok (.if_icmp .ne 15, 3) := by decide +kernel
theorem dX1_readRowForSource_41 : decode cX1_readRowForSource 41 = .ok (.aload_n 0, 1) := by decide +kernel
theorem dX1_readRowForSource_42 : decode cX1_readRowForSource 42 = .ok (.getfield 12, 3) := by decide +kernel
theorem dX1_readRowForSource_45 : decode cX1_readRowForSource 45 = .ok (.iload_n 3, 1) := by decide +kernel
theorem dX1_readRowForSource_46 : decode cX1_readRowForSource 46 = .ok (.invokevirtual 176, 3) := by decide +kernel
theorem dX1_readRowForSource_49 : decode cX1_readRowForSource 49 = .ok (.iconst (-1), 1) := by decide +kernel
theorem dX1_readRowForSource_50 : decode cX1_readRowForSource 50 = .ok (.if_icmp .eq 7, 3) := by decide +kernel
theorem dX1_readRowForSource_53 : decode cX1_readRowForSource 53 = .ok (.iconst 1, 1) := by decide +kernel
theorem dX1_readRowForSource_54 : decode cX1_readRowForSource 54 = .ok (.goto 4, 3) := by decide +kernel
theorem dX1_readRowForSource_57 : decode cX1_readRowForSource 57 = .ok (.iconst 0, 1) := by decide +kernel
theorem dX1_readRowForSource_58 : decode cX1_readRowForSource 58 = .ok (.invokevirtual 147, 3) := by decide +kernel
theorem dX1_readRowForSource_61 : decode cX1_readRowForSource 61 = .ok (.iload_n 2, 1) := by decide +kernel
theorem dX1_readRowForSource_62 : decode cX1_readRowForSource 62 = .ok (.ireturn, 1) := by decide +kernel
theorem dX1_readRowEnd_0 : decode cX1_readRowEnd 0 = .ok (.iload_n 1, 1) := by decide +kernel
theorem dX1_readRowEnd_1 : decode cX1_readRowEnd 1 = .ok (.ifCond .eq 11, 3) := by decide +kernel
theorem dX1_readRowEnd_4 : decode cX1_readRowEnd 4 = .ok (.aload_n 0, 1) := by decide +kernel
theorem dX1_readRowEnd_5 : decode cX1_readRowEnd 5 = .ok (.getfield 18, 3) := by decide +kernel
theorem dX1_readRowEnd_8 : decode cX1_readRowEnd 8 = .ok (.iconst 4, 1) := by decide +kernel
theorem dX1_readRowEnd_9 : decode cX1_readRowEnd 9 = .ok (.invokevirtual 55, 3) := by decide +kernel
theorem dX1_readRowEnd_12 : decode cX1_readRowEnd 12 = .ok (.aload_n 0, 1) := by decide +kernel
theorem dX1_readRowEnd_13 : decode cX1_readRowEnd 13 = .ok (.getfield 18, 3) := by decide +kernel
theorem dX1_readRowEnd_16 : decode cX1_readRowEnd 16 = .ok (.invokevirtual 165, 3) := by decide +kernel
theorem dX1_readRowEnd_19 : decode cX1_readRowEnd 19 = .ok (.return_, 1) := by decide +kernel
theorem dX2_init_0 : decode cX2_init 0 = .ok (.aload_n 0, 1) := by decide +kernel
theorem dX2_init_1 : decode cX2_init 1 = .ok (.invokespecial 3, 3) := by decide +kernel
theorem dX2_init_4 : decode cX2_init 4 = .ok (.aload_n 0, 1) := by decide +kernel
theorem dX2_init_5 : decode cX2_init 5 = .ok (.new 9, 3) := by decide +kernel
theorem dX2_init_8 : decode cX2_init 8 = .ok (.dup, 1) := by decide +kernel
theorem dX2_init_9 : decode cX2_init 9 = .ok (.bipush 100, 2) := by decide +kernel
theorem dX2_init_11 : decode cX2_init 11 = .ok (.iconst 0, 1) := by decide +kernel
theorem dX2_init_12 : decode cX2_init 12 = .ok (.invokespecial 13, 3) := by decide +kernel
theorem dX2_init_15 : decode cX2_init 15 = .ok (.putfield 16, 3) := by decide +kernel
theorem dX2_init_18 : decode cX2_init 18 = .ok (.return_, 1) := by decide +kernel
theorem dX2_measure_0 : decode cX2_measure 0 = .ok (.aload_n 0, 1) := by decide +kernel
theorem dX2_measure_1 : decode cX2_measure 1 = .ok (.fconst 0, 1) := by decide +kernel
theorem dX2_measure_2 : decode cX2_measure 2 = .ok (.putfield 20, 3) := by decide +kernel
theorem dX2_measure_5 : decode cX2_measure 5 = .ok (.aload_n 0, 1) := by decide +kernel
theorem dX2_measure_6 : decode cX2_measure 6 = .ok (.fconst 0, 1) := by decide +kernel
theorem dX2_measure_7 : decode cX2_measure 7 = .ok (.putfield 24, 3) := by decide +kernel
theorem dX2_measure_10 : decode cX2_measure 10 = .ok (.iconst 0, 1) := by decide +kernel
theorem dX2_measure_11 : decode cX2_measure 11 = .ok (.istore 4, 2) := by decide +kernel
theorem dX2_measure_13 : decode cX2_measure 13 = .ok (.iload 4, 2) := by decide +kernel
theorem dX2_measure_15 : decode cX2_measure 15 = .ok (.aload_n 1, 1) := by decide +kernel
theorem dX2_measure_16 : decode cX2_measure 16 = .ok (.getfield 27, 3) := by decide +kernel
theorem dX2_measure_19 : decode cX2_measure 19 = .ok (.if_icmp .ge 56, 3) := by decide +kernel
theorem dX2_measure_22 : decode cX2_measure 22 = .ok (.aload_n 1, 1) := by decide +kernel
theorem dX2_measure_23 : decode cX2_measure 23 = .ok (.iload 4, 2) := by decide +kernel
theorem dX2_measure_25 : decode cX2_measure 25 = .ok (.invokevirtual 33, 3) := by decide +kernel
theorem dX2_measure_28 : decode cX2_measure 28 = .ok (.ifCond .eq 41, 3) := by decide +kernel
theorem dX2_measure_31 : decode cX2_measure 31 = .ok (.aload_n 0, 1) := by decide +kernel
theorem dX2_measure_32 : decode cX2_measure 32 = .ok (.aload_n 1, 1) := by decide +kernel
theorem dX2_measure_33 : decode cX2_measure 33 = .ok (.getfield 37, 3) := by decide +kernel
theorem dX2_measure_36 : decode cX2_measure 36 = .ok (.iload 4, 2) := by decide +kernel
theorem dX2_measure_38 : decode cX2_measure 38 = .ok (.iconst 0, 1) := by decide +kernel
theorem dX2_measure_39 : decode cX2_measure 39 = .ok (.invokevirtual 41, 3) := by decide +kernel
theorem dX2_measure_42 : decode cX2_measure 42 = .ok (.iload_n 2, 1) := by decide +kernel
theorem dX2_measure_43 : decode cX2_measure 43 = .ok (.isub, 1) := by decide +kernel
theorem dX2_measure_44 : decode cX2_measure 44 = .ok (.aload_n 1, 1) := by decide +kernel
theorem dX2_measure_45 : decode cX2_measure 45 = .ok (.getfield 37, 3) := by decide +kernel
theorem dX2_measure_48 : decode cX2_measure 48 = .ok (.iload 4, 2) := by decide +kernel
theorem dX2_measure_50 : decode cX2_measure 50 = .ok (.iconst 1, 1) := by decide +kernel
theorem dX2_measure_51 : decode cX2_measure 51 = .ok (.invokevirtual 41, 3) := by decide +kernel
theorem dX2_measure_54 : decode cX2_measure 54 = .ok (.iload_n 3, 1) := by decide +kernel
theorem dX2_measure_55 : decode cX2_measure 55 = .ok (.isub, 1) := by decide +kernel
theorem dX2_measure_56 : decode cX2_measure 56 = .ok (.aload_n 1, 1) := by decide +kernel
theorem dX2_measure_57 : decode cX2_measure 57 = .ok (.getfield 37, 3) := by decide +kernel
theorem dX2_measure_60 : decode cX2_measure 60 = .ok (.iload 4, 2) := by decide +kernel
theorem dX2_measure_62 : decode cX2_measure 62 = .ok (.iconst 3, 1) := by decide +kernel
theorem dX2_measure_63 : decode cX2_measure 63 = .ok (.invokevirtual 41, 3) := by decide +kernel
theorem dX2_measure_66 : decode cX2_measure 66 = .ok (.invokevirtual 47, 3) := by decide +kernel
theorem dX2_measure_69 : decode cX2_measure 69 = .ok (.iinc 4 1, 3) := by decide +kernel
theorem dX2_measure_72 : decode cX2_measure 72 = .ok (.goto (-59), 3) := by decide +kernel
theorem dX2_measure_75 : decode cX2_measure 75 = .ok (.iconst 0, 1) := by decide +kernel
theorem dX2_measure_76 : decode cX2_measure 76 = .ok (.istore 4, 2) := by decide +kernel
theorem dX2_measure_78 : decode cX2_measure 78 = .ok (.iload 4, 2) := by decide +kernel
theorem dX2_measure_80 : decode cX2_measure 80 = .ok (.aload_n 1, 1) := by decide +kernel
theorem dX2_measure_81 : decode cX2_measure 81 = .ok (.getfield 51, 3) := by decide +kernel
theorem dX2_measure_84 : decode cX2_measure 84 = .ok (.if_icmp .ge 48, 3) := by decide +kernel
theorem dX2_measure_87 : decode cX2_measure 87 = .ok (.aload_n 0, 1) := by decide +kernel
theorem dX2_measure_88 : decode cX2_measure 88 = .ok (.aload_n 1, 1) := by decide +kernel
theorem dX2_measure_89 : decode cX2_measure 89 = .ok (.getfield 54, 3) := by decide +kernel
theorem dX2_measure_92 : decode cX2_measure 92 = .ok (.iload 4, 2) := by decide +kernel
theorem dX2_measure_94 : decode cX2_measure 94 = .ok (.iconst 0, 1) := by decide +kernel
theorem dX2_measure_95 : decode cX2_measure 95 = .ok (.invokevirtual 41, 3) := by decide +kernel
theorem dX2_measure_98 : decode cX2_measure 98 = .ok (.iload_n 2, 1) := by decide +kernel
theorem dX2_measure_99 : decode cX2_measure 99 = .ok (.isub, 1) := by decide +kernel
theorem dX2_measure_100 : decode cX2_measure 100 = .ok (.aload_n 1, 1) := by decide +kernel
theorem dX2_measure_101 : decode cX2_measure 101 = .ok (.getfield 54, 3) := by decide +kernel
theorem dX2_measure_104 : decode cX2_measure 104 = .ok (.iload 4, 2) := by decide +kernel
theorem dX2_measure_106 : decode cX2_measure 106 = .ok (.iconst 1, 1) := by decide +kernel
theorem dX2_measure_107 : decode cX2_measure 107 = .ok (.invokevirtual 41, 3) := by decide +kernel
theorem dX2_measure_110 : decode cX2_measure 110 = .ok (.iload_n 3, 1) := by decide +kernel
theorem dX2_measure_111 : decode cX2_measure 111 = .ok (.isub, 1) := by decide +kernel
theorem dX2_measure_112 : decode cX2_measure 112 = .ok (.aload_n 1, 1) := by decide +kernel
theorem dX2_measure_113 : decode cX2_measure 113 = .ok (.getfield 54, 3) := by decide +kernel
theorem dX2_measure_116 : decode cX2_measure 116 = .ok (.iload 4, 2) := by decide +kernel
theorem dX2_measure_118 : decode cX2_measure 118 = .ok (.iconst 2, 1) := by decide +kernel
theorem dX2_measure_119 : decode cX2_measure 119 = .ok (.invokevirtual 41, 3) := by decide +kernel
theorem dX2_measure_122 : decode cX2_measure 122 = .ok (.ineg, 1) := by decide +kernel
theorem dX2_measure_123 : decode cX2_measure 123 = .ok (.invokevirtual 47, 3) := by decide +kernel
theorem dX2_measure_126 : decode cX2_measure 126 = .ok (.iinc 4 1, 3) := by decide +kernel
theorem dX2_measure_129 : decode cX2_measure 129 = .ok (.goto (-51), 3) := by decide +kernel
theorem dX2_measure_132 : decode cX2_measure 132 = .ok (.return_, 1) := by decide +kernel
theorem dX2_contribute_0 : decode cX2_contribute 0 = .ok (.iload_n 1, 1) := by decide +kernel
theorem dX2_contribute_1 : decode cX2_contribute 1 = .ok (.iload_n 1, 1) := by decide +kernel
theorem dX2_contribute_2 : decode cX2_contribute 2 = .ok (.imul, 1) := by decide +kernel
theorem dX2_contribute_3 : decode cX2_contribute 3 = .ok (.iload_n 2, 1) := by decide +kernel
theorem dX2_contribute_4 : decode cX2_contribute 4 = .ok (.iload_n 2, 1) := by decide +kernel
theorem dX2_contribute_5 : decode cX2_contribute 5 = .ok (.imul, 1) := by decide +kernel
theorem dX2_contribute_6 : decode cX2_contribute 6 = .ok (.iadd, 1) := by decide +kernel
theorem dX2_contribute_7 : decode cX2_contribute 7 = .ok (.istore 4, 2) := by decide +kernel
theorem dX2_contribute_9 : decode cX2_contribute 9 = .ok (.iload 4, 2) := by decide +kernel
theorem dX2_contribute_11 : decode cX2_contribute 11 = .ok (.ifCond .ne 4, 3) := by decide +kernel
theorem dX2_contribute_14 : decode cX2_contribute 14 = .ok (.return_, 1) := by decide +kernel
theorem dX2_contribute_15 : decode cX2_contribute 15 = .ok (.iload_n 3, 1) := by decide +kernel
theorem dX2_contribute_16 : decode cX2_contribute 16 = .ok (.i2f, 1) := by decide +kernel
theorem dX2_contribute_17 : decode cX2_contribute 17 = .ok (.iload 4, 2) := by decide +kernel
theorem dX2_contribute_19 : decode cX2_contribute 19 = .ok (.i2f, 1) := by decide +kernel
theorem dX2_contribute_20 : decode cX2_contribute 20 = .ok (.fdiv, 1) := by decide +kernel
theorem dX2_contribute_21 : decode cX2_contribute 21 = .ok (.fstore 5, 2) := by decide +kernel
theorem dX2_contribute_23 : decode cX2_contribute 23 = .ok (.iload_n 1, 1) := by decide +kernel
theorem dX2_contribute_24 : decode cX2_contribute 24 = .ok (.invokestatic 57, 3) := by decide +kernel
theorem dX2_contribute_27 : decode cX2_contribute 27 = .ok (.iload_n 2, 1) := by decide +kernel
theorem dX2_contribute_28 : decode cX2_contribute 28 = .ok (.invokestatic 57, 3) := by decide +kernel
theorem dX2_contribute_31 : decode cX2_contribute 31 = .ok (.iadd, 1) := by decide +kernel
theorem dX2_contribute_32 : decode cX2_contribute 32 = .ok (.i2f, 1) := by decide +kernel
theorem dX2_contribute_33 : decode cX2_contribute 33 = .ok (.fstore 6, 2) := by decide +kernel
theorem dX2_contribute_35 : decode cX2_contribute 35 = .ok (.aload_n 0, 1) := by decide +kernel
theorem dX2_contribute_36 : decode cX2_contribute 36 = .ok (.dup, 1) := by decide +kernel
theorem dX2_contribute_37 : decode cX2_contribute 37 = .ok (.getfield 20, 3) := by decide +kernel
theorem dX2_contribute_40 : decode cX2_contribute 40 = .ok (.fload 5, 2) := by decide +kernel
theorem dX2_contribute_42 : decode cX2_contribute 42 = .ok (.iload_n 1, 1) := by decide +kernel
theorem dX2_contribute_43 : decode cX2_contribute 43 = .ok (.i2f, 1) := by decide +kernel
theorem dX2_contribute_44 : decode cX2_contribute 44 = .ok (.fmul, 1) := by decide +kernel
theorem dX2_contribute_45 : decode cX2_contribute 45 = .ok (.fload 6, 2) := by decide +kernel
theorem dX2_contribute_47 : decode cX2_contribute 47 = .ok (.fdiv, 1) := by decide +kernel
theorem dX2_contribute_48 : decode cX2_contribute 48 = .ok (.fadd, 1) := by decide +kernel
theorem dX2_contribute_49 : decode cX2_contribute 49 = .ok (.putfield 20, 3) := by decide +kernel
theorem dX2_contribute_52 : decode cX2_contribute 52 = .ok (.aload_n 0, 1) := by decide +kernel
theorem dX2_contribute_53 : decode cX2_contribute 53 = .ok (.dup, 1) := by decide +kernel
theorem dX2_contribute_54 : decode cX2_contribute 54 = .ok (.getfield 24, 3) := by decide +kernel
theorem dX2_contribute_57 : decode cX2_contribute 57 = .ok (.fload 5, 2) := by decide +kernel
theorem dX2_contribute_59 : decode cX2_contribute 59 = .ok (.iload_n 2, 1) := by decide +kernel
theorem dX2_contribute_60 : decode cX2_contribute 60 = .ok (.i2f, 1) := by decide +kernel
theorem dX2_contribute_61 : decode cX2_contribute 61 = .ok (.fmul, 1) := by decide +kernel
theorem dX2_contribute_62 : decode cX2_contribute 62 = .ok (.fload 6, 2) := by decide +kernel
theorem dX2_contribute_64 : decode cX2_contribute 64 = .ok (.fdiv, 1) := by decide +kernel
theorem dX2_contribute_65 : decode cX2_contribute 65 = .ok (.fadd, 1) := by decide +kernel
theorem dX2_contribute_66 : decode cX2_contribute 66 = .ok (.putfield 24, 3) := by decide +kernel
theorem dX2_contribute_69 : decode cX2_contribute 69 = .ok (.return_, 1) := by decide +kernel
theorem dX2_forceIn_0 : decode cX2_forceIn 0 = .ok (.aload_n 0, 1) := by decide +kernel
theorem dX2_forceIn_1 : decode cX2_forceIn 1 = .ok (.aload_n 1, 1) := by decide +kernel
theorem dX2_forceIn_2 : decode cX2_forceIn 2 = .ok (.iload_n 2, 1) := by decide +kernel
theorem dX2_forceIn_3 : decode cX2_forceIn 3 = .ok (.iload_n 3, 1) := by decide +kernel
theorem dX2_forceIn_4 : decode cX2_forceIn 4 = .ok (.invokevirtual 63, 3) := by decide +kernel
theorem dX2_forceIn_7 : decode cX2_forceIn 7 = .ok (.aload_n 0, 1) := by decide +kernel
theorem dX2_forceIn_8 : decode cX2_forceIn 8 = .ok (.getfield 20, 3) := by decide +kernel
theorem dX2_forceIn_11 : decode cX2_forceIn 11 = .ok (.fconst 0, 1) := by decide +kernel
theorem dX2_forceIn_12 : decode cX2_forceIn 12 = .ok (.fcmp .g, 1) := by decide +kernel
theorem dX2_forceIn_13 : decode cX2_forceIn 13 = .ok (.ifCond .ge 11, 3) := by decide +kernel
theorem dX2_forceIn_16 : decode cX2_forceIn 16 = .ok (.aload_n 0, 1) := by decide +kernel
theorem dX2_forceIn_17 : decode cX2_forceIn 17 = .ok (.getfield 20, 3) := by decide +kernel
theorem dX2_forceIn_20 : decode cX2_forceIn 20 = .ok (.fneg, 1) := by decide +kernel
theorem dX2_forceIn_21 : decode cX2_forceIn 21 = .ok (.goto 7, 3) := by decide +kernel
theorem dX2_forceIn_24 : decode cX2_forceIn 24 = .ok (.aload_n 0, 1) := by decide +kernel
theorem dX2_forceIn_25 : decode cX2_forceIn 25 = .ok (.getfield 20, 3) := by decide +kernel
theorem dX2_forceIn_28 : decode cX2_forceIn 28 = .ok (.aload_n 0, 1) := by decide +kernel
theorem dX2_forceIn_29 : decode cX2_forceIn 29 = .ok (.getfield 24, 3) := by decide +kernel
theorem dX2_forceIn_32 : decode cX2_forceIn 32 = .ok (.fconst 0, 1) := by decide +kernel
theorem dX2_forceIn_33 : decode cX2_forceIn 33 = .ok (.fcmp .g, 1) := by decide +kernel
theorem dX2_forceIn_34 : decode cX2_forceIn 34 = .ok (.ifCond .ge 11, 3) := by decide +kernel
theorem dX2_forceIn_37 : decode cX2_forceIn 37 = .ok (.aload_n 0, 1) := by decide +kernel
theorem dX2_forceIn_38 : decode cX2_forceIn 38 = .ok (.getfield 24, 3) := by decide +kernel
theorem dX2_forceIn_41 : decode cX2_forceIn 41 = .ok (.fneg, 1) := by decide +kernel
theorem dX2_forceIn_42 : decode cX2_forceIn 42 = .ok (.goto 7, 3) := by decide +kernel
theorem dX2_forceIn_45 : decode cX2_forceIn 45 = .ok (.aload_n 0, 1) := by decide +kernel
theorem dX2_forceIn_46 : decode cX2_forceIn 46 = .ok (.getfield 24, 3) := by decide +kernel
theorem dX2_forceIn_49 : decode cX2_forceIn 49 = .ok (.fadd, 1) := by decide +kernel
theorem dX2_forceIn_50 : decode cX2_forceIn 50 = .ok (.freturn, 1) := by decide +kernel
theorem dX2_countCalmArea_0 : decode cX2_countCalmArea 0 = .ok (.iconst 0, 1) := by decide +kernel
theorem dX2_countCalmArea_1 : decode cX2_countCalmArea 1 = .ok (.istore 4, 2) := by decide +kernel
theorem dX2_countCalmArea_3 : decode cX2_countCalmArea 3 = .ok (.iload 4, 2) := by decide +kernel
theorem dX2_countCalmArea_5 : decode cX2_countCalmArea 5 = .ok (.aload_n 1, 1) := by decide +kernel
theorem dX2_countCalmArea_6 : decode cX2_countCalmArea 6 = .ok (.invokevirtual 67, 3) := by decide +kernel
theorem dX2_countCalmArea_9 : decode cX2_countCalmArea 9 = .ok (.if_icmp .ge 50, 3) := by decide +kernel
theorem dX2_countCalmArea_12 : decode cX2_countCalmArea 12 = .ok (.aload_n 0, 1) := by decide +kernel
theorem dX2_countCalmArea_13 : decode cX2_countCalmArea 13 = .ok (.aload_n 1, 1) := by decide +kernel
theorem dX2_countCalmArea_14 : decode cX2_countCalmArea 14 = .ok (.aload_n 1, 1) := by decide +kernel
theorem dX2_countCalmArea_15 : decode cX2_countCalmArea 15 = .ok (.iload 4, 2) := by decide +kernel
theorem dX2_countCalmArea_17 : decode cX2_countCalmArea 17 = .ok (.invokevirtual 71, 3) := by decide +kernel
theorem dX2_countCalmArea_20 : decode cX2_countCalmArea 20 = .ok (.aload_n 1, 1) := by decide +kernel
theorem dX2_countCalmArea_21 : decode cX2_countCalmArea 21 = .ok (.iload 4, 2) := by decide +kernel
theorem dX2_countCalmArea_23 : decode cX2_countCalmArea 23 = .ok (.invokevirtual 74, 3) := by decide +kernel
theorem dX2_countCalmArea_26 : decode cX2_countCalmArea 26 = .ok (.invokevirtual 77, 3) := by decide +kernel
theorem dX2_countCalmArea_29 : decode cX2_countCalmArea 29 = .ok (.fstore 5, 2) := by decide +kernel
theorem dX2_countCalmArea_31 : decode cX2_countCalmArea 31 = .ok (.aload_n 0, 1) := by decide +kernel
theorem dX2_countCalmArea_32 : decode cX2_countCalmArea 32 = .ok (.getfield 16, 3) := by decide +kernel
theorem dX2_countCalmArea_35 : decode cX2_countCalmArea 35 = .ok (.iload 4, 2) := by decide +kernel
theorem dX2_countCalmArea_37 : decode cX2_countCalmArea 37 = .ok (.fload 5, 2) := by decide +kernel
theorem dX2_countCalmArea_39 : decode cX2_countCalmArea 39 = .ok (.iload_n 3, 1) := by decide +kernel
theorem dX2_countCalmArea_40 : decode cX2_countCalmArea 40 = .ok (.i2f, 1) := by decide +kernel
theorem dX2_countCalmArea_41 : decode cX2_countCalmArea 41 = .ok (.fcmp .g, 1) := by decide +kernel
theorem dX2_countCalmArea_42 : decode cX2_countCalmArea 42 = .ok (.ifCond .gt 7, 3) := by decide +kernel
theorem dX2_countCalmArea_45 : decode cX2_countCalmArea 45 = .ok (.iconst 1, 1) := by decide +kernel
theorem dX2_countCalmArea_46 : decode cX2_countCalmArea 46 = .ok (.goto 4, 3) := by decide +kernel
theorem dX2_countCalmArea_49 : decode cX2_countCalmArea 49 = .ok (.iconst 0, 1) := by decide +kernel
theorem dX2_countCalmArea_50 : decode cX2_countCalmArea 50 = .ok (.invokevirtual 81, 3) := by decide +kernel
theorem dX2_countCalmArea_53 : decode cX2_countCalmArea 53 = .ok (.iinc 4 1, 3) := by decide +kernel
theorem dX2_countCalmArea_56 : decode cX2_countCalmArea 56 = .ok (.goto (-53), 3) := by decide +kernel
theorem dX2_countCalmArea_59 : decode cX2_countCalmArea 59 = .ok (.aload_n 0, 1) := by decide +kernel
theorem dX2_countCalmArea_60 : decode cX2_countCalmArea 60 = .ok (.getfield 16, 3) := by decide +kernel
theorem dX2_countCalmArea_63 : decode cX2_countCalmArea 63 = .ok (.iload_n 2, 1) := by decide +kernel
theorem dX2_countCalmArea_64 : decode cX2_countCalmArea 64 = .ok (.invokevirtual 84, 3) := by decide +kernel
theorem dX2_countCalmArea_67 : decode cX2_countCalmArea 67 = .ok (.iconst 1, 1) := by decide +kernel
theorem dX2_countCalmArea_68 : decode cX2_countCalmArea 68 = .ok (.if_icmp .eq 5, 3) := by decide +kernel
theorem dX2_countCalmArea_71 : decode cX2_countCalmArea 71 = .ok (.iconst 0, 1) := by decide +kernel
theorem dX2_countCalmArea_72 : decode cX2_countCalmArea 72 = .ok (.ireturn, 1) := by decide +kernel
theorem dX2_countCalmArea_73 : decode cX2_countCalmArea 73 = .ok (.aload_n 0, 1) := by decide +kernel
theorem dX2_countCalmArea_74 : decode cX2_countCalmArea 74 = .ok (.getfield 16, 3) := by decide +kernel
theorem dX2_countCalmArea_77 : decode cX2_countCalmArea 77 = .ok (.iload_n 2, 1) := by decide +kernel
theorem dX2_countCalmArea_78 : decode cX2_countCalmArea 78 = .ok (.iconst 2, 1) := by decide +kernel
theorem dX2_countCalmArea_79 : decode cX2_countCalmArea 79 = .ok (.invokevirtual 81, 3) := by decide +kernel
theorem dX2_countCalmArea_82 : decode cX2_countCalmArea 82 = .ok (.iconst 1, 1) := by decide +kernel
theorem dX2_countCalmArea_83 : decode cX2_countCalmArea 83 = .ok (.istore 4, 2) := by decide +kernel
theorem dX2_countCalmArea_85 : decode cX2_countCalmArea 85 = .ok (.iconst 1, 1) := by decide +kernel
theorem dX2_countCalmArea_86 : decode cX2_countCalmArea 86 = .ok (.istore 5, 2) := by decide +kernel
theorem dX2_countCalmArea_88 : decode cX2_countCalmArea 88 = .ok (.iconst 0, 1) := by decide +kernel
theorem dX2_countCalmArea_89 : decode cX2_countCalmArea 89 = .ok (.istore 6, 2) := by decide +kernel
theorem dX2_countCalmArea_91 : decode cX2_countCalmArea 91 = .ok (.iload 6, 2) := by decide +kernel
theorem dX2_countCalmArea_93 : decode cX2_countCalmArea 93 = .ok (.bipush 100, 2) := by decide +kernel
theorem dX2_countCalmArea_95 : decode cX2_countCalmArea 95 = .ok (.if_icmp .ge 28, 3) := by decide +kernel
theorem dX2_countCalmArea_98 : decode cX2_countCalmArea 98 = .ok (.iload 5, 2) := by decide +kernel
theorem dX2_countCalmArea_100 : decode cX2_countCalmArea 100 = .ok (.ifCond .le 23, 3) := by decide +kernel
theorem dX2_countCalmArea_103 : decode cX2_countCalmArea 103 = .ok (.aload_n 0, 1) := by decide +kernel
theorem dX2_countCalmArea_104 : decode cX2_countCalmArea 104 = .ok (.aload_n 1, 1) := by decide +kernel
theorem dX2_countCalmArea_105 : decode cX2_countCalmArea 105 = .ok (.invokevirtual 86, 3) := by decide +kernel
theorem dX2_countCalmArea_108 : decode cX2_countCalmArea 108 = .ok (.istore 5, 2) := by decide +kernel
theorem dX2_countCalmArea_110 : decode cX2_countCalmArea 110 = .ok (.iload 4, 2) := by decide +kernel
theorem dX2_countCalmArea_112 : decode cX2_countCalmArea 112 = .ok (.iload 5, 2) := by decide +kernel
theorem dX2_countCalmArea_114 : decode cX2_countCalmArea 114 = .ok (.iadd, 1) := by decide +kernel
theorem dX2_countCalmArea_115 : decode cX2_countCalmArea 115 = .ok (.istore 4, 2) := by decide +kernel
theorem dX2_countCalmArea_117 : decode cX2_countCalmArea 117 = .ok (.iinc 6 1, 3) := by decide +kernel
theorem dX2_countCalmArea_120 : decode cX2_countCalmArea 120 = .ok (.goto (-29), 3) := by decide +kernel
theorem dX2_countCalmArea_123 : decode cX2_countCalmArea 123 = .ok (.iload 4, 2) := by decide +kernel
theorem dX2_countCalmArea_125 : decode cX2_countCalmArea 125 = .ok (.ireturn, 1) := by decide +kernel
theorem dX2_reachMore_0 : decode cX2_reachMore 0 = .ok (.iconst 0, 1) := by decide +kernel
theorem dX2_reachMore_1 : decode cX2_reachMore 1 = .ok (.istore_n 2, 1) := by decide +kernel
theorem dX2_reachMore_2 : decode cX2_reachMore 2 = .ok (.iconst 0, 1) := by decide +kernel
theorem dX2_reachMore_3 : decode cX2_reachMore 3 = .ok (.istore_n 3, 1) := by decide +kernel
theorem dX2_reachMore_4 : decode cX2_reachMore 4 = .ok (.iload_n 3, 1) := by decide +kernel
theorem dX2_reachMore_5 : decode cX2_reachMore 5 = .ok (.aload_n 1, 1) := by decide +kernel
theorem dX2_reachMore_6 : decode cX2_reachMore 6 = .ok (.getfield 90, 3) := by decide +kernel
theorem dX2_reachMore_9 : decode cX2_reachMore 9 = .ok (.if_icmp .ge 73, 3) := by decide +kernel
theorem dX2_reachMore_12 : decode cX2_reachMore 12 = .ok (.iconst 0, 1) := by decide +kernel
theorem dX2_reachMore_13 : decode cX2_reachMore 13 = .ok (.istore 4, 2) := by decide +kernel
theorem dX2_reachMore_15 : decode cX2_reachMore 15 = .ok (.iload 4, 2) := by decide +kernel
theorem dX2_reachMore_17 : decode cX2_reachMore 17 = .ok (.aload_n 1, 1) := by decide +kernel
theorem dX2_reachMore_18 : decode cX2_reachMore 18 = .ok (.getfield 93, 3) := by decide +kernel
theorem dX2_reachMore_21 : decode cX2_reachMore 21 = .ok (.if_icmp .ge 55, 3) := by decide +kernel
theorem dX2_reachMore_24 : decode cX2_reachMore 24 = .ok (.aload_n 1, 1) := by decide +kernel
theorem dX2_reachMore_25 : decode cX2_reachMore 25 = .ok (.iload 4, 2) := by decide +kernel
theorem dX2_reachMore_27 : decode cX2_reachMore 27 = .ok (.iload_n 3, 1) := by decide +kernel
theorem dX2_reachMore_28 : decode cX2_reachMore 28 = .ok (.invokevirtual 96, 3) := by decide +kernel
theorem dX2_reachMore_31 : decode cX2_reachMore 31 = .ok (.istore 5, 2) := by decide +kernel
theorem dX2_reachMore_33 : decode cX2_reachMore 33 = .ok (.aload_n 0, 1) := by decide +kernel
theorem dX2_reachMore_34 : decode cX2_reachMore 34 = .ok (.getfield 16, 3) := by decide +kernel
theorem dX2_reachMore_37 : decode cX2_reachMore 37 = .ok (.iload 5, 2) := by decide +kernel
theorem dX2_reachMore_39 : decode cX2_reachMore 39 = .ok (.invokevirtual 84, 3) := by decide +kernel
theorem dX2_reachMore_42 : decode cX2_reachMore 42 = .ok (.iconst 1, 1) := by decide +kernel
theorem dX2_reachMore_43 : decode cX2_reachMore 43 = .ok (.if_icmp .ne 27, 3) := by decide +kernel
theorem dX2_reachMore_46 : decode cX2_reachMore 46 = .ok (.aload_n 0, 1) := by decide +kernel
theorem dX2_reachMore_47 : decode cX2_reachMore 47 = .ok (.aload_n 1, 1) := by decide +kernel
theorem dX2_reachMore_48 : decode cX2_reachMore 48 = .ok (.iload 4, 2) := by decide +kernel
theorem dX2_reachMore_50 : decode cX2_reachMore 50 = .ok (.iload_n 3, 1) := by decide +kernel
theorem dX2_reachMore_51 : decode cX2_reachMore 51 = .ok (.invokevirtual 99, 3) := by decide +kernel
theorem dX2_reachMore_54 : decode cX2_reachMore 54 = .ok (.ifCond .eq 16, 3) := by decide +kernel
theorem dX2_reachMore_57 : decode cX2_reachMore 57 = .ok (.aload_n 0, 1) := by decide +kernel
theorem dX2_reachMore_58 : decode cX2_reachMore 58 = .ok (.getfield 16, 3) := by decide +kernel
theorem dX2_reachMore_61 : decode cX2_reachMore 61 = .ok (.iload 5, 2) := by decide +kernel
theorem dX2_reachMore_63 : decode cX2_reachMore 63 = .ok (.iconst 2, 1) := by decide +kernel
theorem dX2_reachMore_64 : decode cX2_reachMore 64 = .ok (.invokevirtual 81, 3) := by decide +kernel
theorem dX2_reachMore_67 : decode cX2_reachMore 67 = .ok (.iinc 2 1, 3) := by decide +kernel
theorem dX2_reachMore_70 : decode cX2_reachMore 70 = .ok (.iinc 4 1, 3) := by decide +kernel
theorem dX2_reachMore_73 : decode cX2_reachMore 73 = .ok (.goto (-58), 3) := by decide +kernel
theorem dX2_reachMore_76 : decode cX2_reachMore 76 = .ok (.iinc 3 1, 3) := by decide +kernel
theorem dX2_reachMore_79 : decode cX2_reachMore 79 = .ok (.goto (-75), 3) := by decide +kernel
theorem dX2_reachMore_82 : decode cX2_reachMore 82 = .ok (.iload_n 2, 1) := by decide +kernel
theorem dX2_reachMore_83 : decode cX2_reachMore 83 = .ok (.ireturn, 1) := by decide +kernel
theorem dX2_isBesideReached_0 : decode cX2_isBesideReached 0 = .ok (.aload_n 0, 1) := by decide +kernel
theorem dX2_isBesideReached_1 : decode cX2_isBesideReached 1 = .ok (.getfield 16, 3) := by decide +kernel
theorem dX2_isBesideReached_4 : decode cX2_isBesideReached 4 = .ok (.aload_n 1, 1) := by decide +kernel
theorem dX2_isBesideReached_5 : decode cX2_isBesideReached 5 = .ok (.iload_n 2, 1) := by decide +kernel
theorem dX2_isBesideReached_6 : decode cX2_isBesideReached 6 = .ok (.iload_n 3, 1) := by decide +kernel
theorem dX2_isBesideReached_7 : decode cX2_isBesideReached 7 = .ok (.iconst 1, 1) := by decide +kernel
theorem dX2_isBesideReached_8 : decode cX2_isBesideReached 8 = .ok (.isub, 1) := by decide +kernel
theorem dX2_isBesideReached_9 : decode cX2_isBesideReached 9 = .ok (.invokevirtual 96, 3) := by decide +kernel
theorem dX2_isBesideReached_12 : decode cX2_isBesideReached 12 = .ok (.invokevirtual 84, 3) := by decide +kernel
theorem dX2_isBesideReached_15 : decode cX2_isBesideReached 15 = .ok (.iconst 2, 1) := by decide +kernel
theorem dX2_isBesideReached_16 : decode cX2_isBesideReached 16 = .ok (.if_icmp .eq 60, 3) := by decide +kernel
theorem dX2_isBesideReached_19 : decode cX2_isBesideReached 19 = .ok (.aload_n 0, 1) := by decide +kernel
theorem dX2_isBesideReached_20 : decode cX2_isBesideReached 20 = .ok (.getfield 16, 3) := by decide +kernel
theorem dX2_isBesideReached_23 : decode cX2_isBesideReached 23 = .ok (.aload_n 1, 1) := by decide +kernel
theorem dX2_isBesideReached_24 : decode cX2_isBesideReached 24 = .ok (.iload_n 2, 1) := by decide +kernel
theorem dX2_isBesideReached_25 : decode cX2_isBesideReached 25 = .ok (.iconst 1, 1) := by decide +kernel
theorem dX2_isBesideReached_26 : decode cX2_isBesideReached 26 = .ok (.isub, 1) := by decide +kernel
theorem dX2_isBesideReached_27 : decode cX2_isBesideReached 27 = .ok (.iload_n 3, 1) := by decide +kernel
theorem dX2_isBesideReached_28 : decode cX2_isBesideReached 28 = .ok (.invokevirtual 96, 3) := by decide +kernel
theorem dX2_isBesideReached_31 : decode cX2_isBesideReached 31 = .ok (.invokevirtual 84, 3) := by decide +kernel
theorem dX2_isBesideReached_34 : decode cX2_isBesideReached 34 = .ok (.iconst 2, 1) := by decide +kernel
theorem dX2_isBesideReached_35 : decode cX2_isBesideReached 35 = .ok (.if_icmp .eq 41, 3) := by decide +kernel
theorem dX2_isBesideReached_38 : decode cX2_isBesideReached 38 = .ok (.aload_n 0, 1) := by decide +kernel
theorem dX2_isBesideReached_39 : decode cX2_isBesideReached 39 = .ok (.getfield 16, 3) := by decide +kernel
theorem dX2_isBesideReached_42 : decode cX2_isBesideReached 42 = .ok (.aload_n 1, 1) := by decide +kernel
theorem dX2_isBesideReached_43 : decode cX2_isBesideReached 43 = .ok (.iload_n 2, 1) := by decide +kernel
theorem dX2_isBesideReached_44 : decode cX2_isBesideReached 44 = .ok (.iconst 1, 1) := by decide +kernel
theorem dX2_isBesideReached_45 : decode cX2_isBesideReached 45 = .ok (.iadd, 1) := by decide +kernel
theorem dX2_isBesideReached_46 : decode cX2_isBesideReached 46 = .ok (.iload_n 3, 1) := by decide +kernel
theorem dX2_isBesideReached_47 : decode cX2_isBesideReached 47 = .ok (.invokevirtual 96, 3) := by decide +kernel
theorem dX2_isBesideReached_50 : decode cX2_isBesideReached 50 = .ok (.invokevirtual 84, 3) := by decide +kernel
theorem dX2_isBesideReached_53 : decode cX2_isBesideReached 53 = .ok (.iconst 2, 1) := by decide +kernel
theorem dX2_isBesideReached_54 : decode cX2_isBesideReached 54 = .ok (.if_icmp .eq 22, 3) := by decide +kernel
theorem dX2_isBesideReached_57 : decode cX2_isBesideReached 57 = .ok (.aload_n 0, 1) := by decide +kernel
theorem dX2_isBesideReached_58 : decode cX2_isBesideReached 58 = .ok (.getfield 16, 3) := by decide +kernel
theorem dX2_isBesideReached_61 : decode cX2_isBesideReached 61 = .ok (.aload_n 1, 1) := by decide +kernel
theorem dX2_isBesideReached_62 : decode cX2_isBesideReached 62 = .ok (.iload_n 2, 1) := by decide +kernel
theorem dX2_isBesideReached_63 : decode cX2_isBesideReached 63 = .ok (.iload_n 3, 1) := by decide +kernel
theorem dX2_isBesideReached_64 : decode cX2_isBesideReached 64 = .ok (.iconst 1, 1) := by decide +kernel
theorem dX2_isBesideReached_65 : decode cX2_isBesideReached 65 = .ok (.iadd, 1) := by decide +kernel
theorem dX2_isBesideReached_66 : decode cX2_isBesideReached 66 = .ok (.invokevirtual 96, 3) := by decide +kernel
theorem dX2_isBesideReached_69 : decode cX2_isBesideReached 69 = .ok (.invokevirtual 84, 3) := by decide +kernel
theorem dX2_isBesideReached_72 : decode cX2_isBesideReached 72 = .ok (.iconst 2, 1) := by decide +kernel
theorem dX2_isBesideReached_73 : decode cX2_isBesideReached 73 = .ok (.if_icmp .ne 7, 3) := by decide +kernel
theorem dX2_isBesideReached_76 : decode cX2_isBesideReached 76 = .ok (.iconst 1, 1) := by decide +kernel
theorem dX2_isBesideReached_77 : decode cX2_isBesideReached 77 = .ok (.goto 4, 3) := by decide +kernel
theorem dX2_isBesideReached_80 : decode cX2_isBesideReached 80 = .ok (.iconst 0, 1) := by decide +kernel
theorem dX2_isBesideReached_81 : decode cX2_isBesideReached 81 = .ok (.ireturn, 1) := by decide +kernel
theorem dX3_init_0 : decode cX3_init 0 = .ok (.aload_n 0, 1) := by decide +kernel
theorem dX3_init_1 : decode cX3_init 1 = .ok (.invokespecial 3, 3) := by decide +kernel
theorem dX3_init_4 : decode cX3_init 4 = .ok (.aload_n 0, 1) := by decide +kernel
theorem dX3_init_5 : decode cX3_init 5 = .ok (.bipush 10, 2) := by decide +kernel
theorem dX3_init_7 : decode cX3_init 7 = .ok (.anewarray 9, 3) := by decide +kernel
theorem dX3_init_10 : decode cX3_init 10 = .ok (.putfield 11, 3) := by decide +kernel
theorem dX3_init_13 : decode cX3_init 13 = .ok (.iconst 0, 1) := by decide +kernel
theorem dX3_init_14 : decode cX3_init 14 = .ok (.istore_n 1, 1) := by decide +kernel
theorem dX3_init_15 : decode cX3_init 15 = .ok (.iload_n 1, 1) := by decide +kernel
theorem dX3_init_16 : decode cX3_init 16 = .ok (.aload_n 0, 1) := by decide +kernel
theorem dX3_init_17 : decode cX3_init 17 = .ok (.getfield 11, 3) := by decide +kernel
theorem dX3_init_20 : decode cX3_init 20 = .ok (.arraylength, 1) := by decide +kernel
theorem dX3_init_21 : decode cX3_init 21 = .ok (.if_icmp .ge 22, 3) := by decide +kernel
theorem dX3_init_24 : decode cX3_init 24 = .ok (.aload_n 0, 1) := by decide +kernel
theorem dX3_init_25 : decode cX3_init 25 = .ok (.getfield 11, 3) := by decide +kernel
theorem dX3_init_28 : decode cX3_init 28 = .ok (.iload_n 1, 1) := by decide +kernel
theorem dX3_init_29 : decode cX3_init 29 = .ok (.new 9, 3) := by decide +kernel
theorem dX3_init_32 : decode cX3_init 32 = .ok (.dup, 1) := by decide +kernel
theorem dX3_init_33 : decode cX3_init 33 = .ok (.invokespecial 17, 3) := by decide +kernel
theorem dX3_init_36 : decode cX3_init 36 = .ok (.aastore, 1) := by decide +kernel
theorem dX3_init_37 : decode cX3_init 37 = .ok (.iinc 1 1, 3) := by decide +kernel
theorem dX3_init_40 : decode cX3_init 40 = .ok (.goto (-25), 3) := by decide +kernel
theorem dX3_init_43 : decode cX3_init 43 = .ok (.return_, 1) := by decide +kernel
theorem dX3_slot_0 : decode cX3_slot 0 = .ok (.iload_n 1, 1) := by decide +kernel
theorem dX3_slot_1 : decode cX3_slot 1 = .ok (.ifCond .lt 21, 3) := by decide +kernel
theorem dX3_slot_4 : decode cX3_slot 4 = .ok (.iload_n 1, 1) := by decide +kernel
theorem dX3_slot_5 : decode cX3_slot 5 = .ok (.aload_n 0, 1) := by decide +kernel
theorem dX3_slot_6 : decode cX3_slot 6 = .ok (.getfield 11, 3) := by decide +kernel
theorem dX3_slot_9 : decode cX3_slot 9 = .ok (.arraylength, 1) := by decide +kernel
theorem dX3_slot_10 : decode cX3_slot 10 = .ok (.if_icmp .ge 12, 3) := by decide +kernel
theorem dX3_slot_13 : decode cX3_slot 13 = .ok (.aload_n 0, 1) := by decide +kernel
theorem dX3_slot_14 : decode cX3_slot 14 = .ok (.getfield 11, 3) := by decide +kernel
theorem dX3_slot_17 : decode cX3_slot 17 = .ok (.iload_n 1, 1) := by decide +kernel
theorem dX3_slot_18 : decode cX3_slot 18 = .ok (.aaload, 1) := by decide +kernel
theorem dX3_slot_19 : decode cX3_slot 19 = .ok (.goto 4, 3) := by decide +kernel
theorem dX3_slot_22 : decode cX3_slot 22 = .ok (.aconst_null, 1) := by decide +kernel
theorem dX3_slot_23 : decode cX3_slot 23 = .ok (.areturn, 1) := by decide +kernel
theorem dX3_record_0 : decode cX3_record 0 = .ok (.aload_n 0, 1) := by decide +kernel
theorem dX3_record_1 : decode cX3_record 1 = .ok (.aload_n 0, 1) := by decide +kernel
theorem dX3_record_2 : decode cX3_record 2 = .ok (.getfield 18, 3) := by decide +kernel
theorem dX3_record_5 : decode cX3_record 5 = .ok (.invokevirtual 22, 3) := by decide +kernel
theorem dX3_record_8 : decode cX3_record 8 = .ok (.astore_n 2, 1) := by decide +kernel
theorem dX3_record_9 : decode cX3_record 9 = .ok (.aload_n 2, 1) := by decide +kernel
theorem dX3_record_10 : decode cX3_record 10 = .ok (.ifnonnull 4, 3) := by decide +kernel
theorem dX3_record_13 : decode cX3_record 13 = .ok (.return_, 1) := by decide +kernel
theorem dX3_record_14 : decode cX3_record 14 = .ok (.aload_n 2, 1) := by decide +kernel
theorem dX3_record_15 : decode cX3_record 15 = .ok (.aload_n 1, 1) := by decide +kernel
theorem dX3_record_16 : decode cX3_record 16 = .ok (.invokevirtual 26, 3) := by decide +kernel
theorem dX3_record_19 : decode cX3_record 19 = .ok (.aload_n 0, 1) := by decide +kernel
theorem dX3_record_20 : decode cX3_record 20 = .ok (.aload_n 0, 1) := by decide +kernel
theorem dX3_record_21 : decode cX3_record 21 = .ok (.getfield 18, 3) := by decide +kernel
theorem dX3_record_24 : decode cX3_record 24 = .ok (.iconst 1, 1) := by decide +kernel
theorem dX3_record_25 : decode cX3_record 25 = .ok (.iadd, 1) := by decide +kernel
theorem dX3_record_26 : decode cX3_record 26 = .ok (.bipush 10, 2) := by decide +kernel
theorem dX3_record_28 : decode cX3_record 28 = .ok (.irem, 1) := by decide +kernel
theorem dX3_record_29 : decode cX3_record 29 = .ok (.putfield 18, 3) := by decide +kernel
theorem dX3_record_32 : decode cX3_record 32 = .ok (.aload_n 0, 1) := by decide +kernel
theorem dX3_record_33 : decode cX3_record 33 = .ok (.aload_n 0, 1) := by decide +kernel
theorem dX3_record_34 : decode cX3_record 34 = .ok (.getfield 30, 3) := by decide +kernel
theorem dX3_record_37 : decode cX3_record 37 = .ok (.iconst 1, 1) := by decide +kernel
theorem dX3_record_38 : decode cX3_record 38 = .ok (.iadd, 1) := by decide +kernel
theorem dX3_record_39 : decode cX3_record 39 = .ok (.bipush 10, 2) := by decide +kernel
theorem dX3_record_41 : decode cX3_record 41 = .ok (.invokestatic 33, 3) := by decide +kernel
theorem dX3_record_44 : decode cX3_record 44 = .ok (.putfield 30, 3) := by decide +kernel
theorem dX3_record_47 : decode cX3_record 47 = .ok (.return_, 1) := by decide +kernel
theorem dX3_takeBack_0 : decode cX3_takeBack 0 = .ok (.aload_n 0, 1) := by decide +kernel
theorem dX3_takeBack_1 : decode cX3_takeBack 1 = .ok (.getfield 18, 3) := by decide +kernel
theorem dX3_takeBack_4 : decode cX3_takeBack 4 = .ok (.bipush 10, 2) := by decide +kernel
theorem dX3_takeBack_6 : decode cX3_takeBack 6 = .ok (.iadd, 1) := by decide +kernel
theorem dX3_takeBack_7 : decode cX3_takeBack 7 = .ok (.iconst 1, 1) := by decide +kernel
theorem dX3_takeBack_8 : decode cX3_takeBack 8 = .ok (.isub, 1) := by decide +kernel
theorem dX3_takeBack_9 : decode cX3_takeBack 9 = .ok (.bipush 10, 2) := by decide +kernel
theorem dX3_takeBack_11 : decode cX3_takeBack 11 = .ok (.irem, 1) := by decide +kernel
theorem dX3_takeBack_12 : decode cX3_takeBack 12 = .ok (.istore_n 2, 1) := by decide +kernel
theorem dX3_takeBack_13 : decode cX3_takeBack 13 = .ok (.aload_n 0, 1) := by decide +kernel
theorem dX3_takeBack_14 : decode cX3_takeBack 14 = .ok (.iload_n 2, 1) := by decide +kernel
theorem dX3_takeBack_15 : decode cX3_takeBack 15 = .ok (.invokevirtual 22, 3) := by decide +kernel
theorem dX3_takeBack_18 : decode cX3_takeBack 18 = .ok (.astore_n 3, 1) := by decide +kernel
theorem dX3_takeBack_19 : decode cX3_takeBack 19 = .ok (.aload_n 0, 1) := by decide +kernel
theorem dX3_takeBack_20 : decode cX3_takeBack 20 = .ok (.getfield 30, 3) := by decide +kernel
theorem dX3_takeBack_23 : decode cX3_takeBack 23 = .ok (.ifCond .eq 7, 3) := by decide +kernel
theorem dX3_takeBack_26 : decode cX3_takeBack 26 = .ok (.aload_n 3, 1) := by decide +kernel
theorem dX3_takeBack_27 : decode cX3_takeBack 27 = .ok (.ifnonnull 5, 3) := by decide +kernel
theorem dX3_takeBack_30 : decode cX3_takeBack 30 = .ok (.iconst 0, 1) := by decide +kernel
theorem dX3_takeBack_31 : decode cX3_takeBack 31 = .ok (.ireturn, 1) := by decide +kernel
theorem dX3_takeBack_32 : decode cX3_takeBack 32 = .ok (.aload_n 1, 1) := by decide +kernel
theorem dX3_takeBack_33 : decode cX3_takeBack 33 = .ok (.aload_n 3, 1) := by decide +kernel
theorem dX3_takeBack_34 : decode cX3_takeBack 34 = .ok (.invokevirtual 26, 3) := by decide +kernel
theorem dX3_takeBack_37 : decode cX3_takeBack 37 = .ok (.aload_n 0, 1) := by decide +kernel
theorem dX3_takeBack_38 : decode cX3_takeBack 38 = .ok (.iload_n 2, 1) := by decide +kernel
theorem dX3_takeBack_39 : decode cX3_takeBack 39 = .ok (.putfield 18, 3) := by decide +kernel
theorem dX3_takeBack_42 : decode cX3_takeBack 42 = .ok (.aload_n 0, 1) := by decide +kernel
theorem dX3_takeBack_43 : decode cX3_takeBack 43 = .ok (.dup, 1) := by decide +kernel
theorem dX3_takeBack_44 : decode cX3_takeBack 44 = .ok (.getfield 30, 3) := by decide +kernel
theorem dX3_takeBack_47 : decode cX3_takeBack 47 = .ok (.iconst 1, 1) := by decide +kernel
theorem dX3_takeBack_48 : decode cX3_takeBack 48 = .ok (.isub, 1) := by decide +kernel
theorem dX3_takeBack_49 : decode cX3_takeBack 49 = .ok (.putfield 30, 3) := by decide +kernel
theorem dX3_takeBack_52 : decode cX3_takeBack 52 = .ok (.iconst 1, 1) := by decide +kernel
theorem dX3_takeBack_53 : decode cX3_takeBack 53 = .ok (.ireturn, 1) := by decide +kernel
theorem dX3_clear_0 : decode cX3_clear 0 = .ok (.aload_n 0, 1) := by decide +kernel
theorem dX3_clear_1 : decode cX3_clear 1 = .ok (.iconst 0, 1) := by decide +kernel
theorem dX3_clear_2 : decode cX3_clear 2 = .ok (.putfield 30, 3) := by decide +kernel
theorem dX3_clear_5 : decode cX3_clear 5 = .ok (.return_, 1) := by decide +kernel
theorem dX4_init_0 : decode cX4_init 0 = .ok (.aload_n 0, 1) := by decide +kernel
theorem dX4_init_1 : decode cX4_init 1 = .ok (.invokespecial 3, 3) := by decide +kernel
theorem dX4_init_4 : decode cX4_init 4 = .ok (.aload_n 0, 1) := by decide +kernel
theorem dX4_init_5 : decode cX4_init 5 = .ok (.new 9, 3) := by decide +kernel
theorem dX4_init_8 : decode cX4_init 8 = .ok (.dup, 1) := by decide +kernel
theorem dX4_init_9 : decode cX4_init 9 = .ok (.invokespecial 11, 3) := by decide +kernel
theorem dX4_init_12 : decode cX4_init 12 = .ok (.putfield 12, 3) := by decide +kernel
theorem dX4_init_15 : decode cX4_init 15 = .ok (.aload_n 0, 1) := by decide +kernel
theorem dX4_init_16 : decode cX4_init 16 = .ok (.new 18, 3) := by decide +kernel
theorem dX4_init_19 : decode cX4_init 19 = .ok (.dup, 1) := by decide +kernel
theorem dX4_init_20 : decode cX4_init 20 = .ok (.bipush 100, 2) := by decide +kernel
theorem dX4_init_22 : decode cX4_init 22 = .ok (.iconst 0, 1) := by decide +kernel
theorem dX4_init_23 : decode cX4_init 23 = .ok (.invokespecial 20, 3) := by decide +kernel
theorem dX4_init_26 : decode cX4_init 26 = .ok (.putfield 23, 3) := by decide +kernel
theorem dX4_init_29 : decode cX4_init 29 = .ok (.return_, 1) := by decide +kernel
theorem dX4_passTurn_0 : decode cX4_passTurn 0 = .ok (.aload_n 1, 1) := by decide +kernel
theorem dX4_passTurn_1 : decode cX4_passTurn 1 = .ok (.dup, 1) := by decide +kernel
theorem dX4_passTurn_2 : decode cX4_passTurn 2 = .ok (.getfield 27, 3) := by decide +kernel
theorem dX4_passTurn_5 : decode cX4_passTurn 5 = .ok (.iconst 1, 1) := by decide +kernel
theorem dX4_passTurn_6 : decode cX4_passTurn 6 = .ok (.iadd, 1) := by decide +kernel
theorem dX4_passTurn_7 : decode cX4_passTurn 7 = .ok (.putfield 27, 3) := by decide +kernel
theorem dX4_passTurn_10 : decode cX4_passTurn 10 = .ok (.aload_n 0, 1) := by decide +kernel
theorem dX4_passTurn_11 : decode cX4_passTurn 11 = .ok (.aload_n 1, 1) := by decide +kernel
theorem dX4_passTurn_12 : decode cX4_passTurn 12 = .ok (.invokevirtual 33, 3) := by decide +kernel
theorem dX4_passTurn_15 : decode cX4_passTurn 15 = .ok (.aload_n 1, 1) := by decide +kernel
theorem dX4_passTurn_16 : decode cX4_passTurn 16 = .ok (.getfield 37, 3) := by decide +kernel
theorem dX4_passTurn_19 : decode cX4_passTurn 19 = .ok (.ifCond .le 33, 3) := by decide +kernel
theorem dX4_passTurn_22 : decode cX4_passTurn 22 = .ok (.iconst 0, 1) := by decide +kernel
theorem dX4_passTurn_23 : decode cX4_passTurn 23 = .ok (.istore_n 2, 1) := by decide +kernel
theorem dX4_passTurn_24 : decode cX4_passTurn 24 = .ok (.iload_n 2, 1) := by decide +kernel
theorem dX4_passTurn_25 : decode cX4_passTurn 25 = .ok (.aload_n 1, 1) := by decide +kernel
theorem dX4_passTurn_26 : decode cX4_passTurn 26 = .ok (.getfield 40, 3) := by decide +kernel
theorem dX4_passTurn_29 : decode cX4_passTurn 29 = .ok (.if_icmp .ge 23, 3) := by decide +kernel
theorem dX4_passTurn_32 : decode cX4_passTurn 32 = .ok (.aload_n 1, 1) := by decide +kernel
theorem dX4_passTurn_33 : decode cX4_passTurn 33 = .ok (.iload_n 2, 1) := by decide +kernel
theorem dX4_passTurn_34 : decode cX4_passTurn 34 = .ok (.invokevirtual 43, 3) := by decide +kernel
theorem dX4_passTurn_37 : decode cX4_passTurn 37 = .ok (.ifCond .eq 9, 3) := by decide +kernel
theorem dX4_passTurn_40 : decode cX4_passTurn 40 = .ok (.aload_n 0, 1) := by decide +kernel
theorem dX4_passTurn_41 : decode cX4_passTurn 41 = .ok (.aload_n 1, 1) := by decide +kernel
theorem dX4_passTurn_42 : decode cX4_passTurn 42 = .ok (.iload_n 2, 1) := by decide +kernel
theorem dX4_passTurn_43 : decode cX4_passTurn 43 = .ok (.invokevirtual 47, 3) := by decide +kernel
theorem dX4_passTurn_46 : decode cX4_passTurn 46 = .ok (.iinc 2 1, 3) := by decide +kernel
theorem dX4_passTurn_49 : decode cX4_passTurn 49 = .ok (.goto (-25), 3) := by decide +kernel
theorem dX4_passTurn_52 : decode cX4_passTurn 52 = .ok (.iconst 0, 1) := by decide +kernel
theorem dX4_passTurn_53 : decode cX4_passTurn 53 = .ok (.istore_n 2, 1) := by decide +kernel
theorem dX4_passTurn_54 : decode cX4_passTurn 54 = .ok (.iload_n 2, 1) := by decide +kernel
theorem dX4_passTurn_55 : decode cX4_passTurn 55 = .ok (.aload_n 1, 1) := by decide +kernel
theorem dX4_passTurn_56 : decode cX4_passTurn 56 = .ok (.getfield 40, 3) := by decide +kernel
theorem dX4_passTurn_59 : decode cX4_passTurn 59 = .ok (.if_icmp .ge 23, 3) := by decide +kernel
theorem dX4_passTurn_62 : decode cX4_passTurn 62 = .ok (.aload_n 1, 1) := by decide +kernel
theorem dX4_passTurn_63 : decode cX4_passTurn 63 = .ok (.iload_n 2, 1) := by decide +kernel
theorem dX4_passTurn_64 : decode cX4_passTurn 64 = .ok (.invokevirtual 43, 3) := by decide +kernel
theorem dX4_passTurn_67 : decode cX4_passTurn 67 = .ok (.ifCond .eq 9, 3) := by decide +kernel
theorem dX4_passTurn_70 : decode cX4_passTurn 70 = .ok (.aload_n 0, 1) := by decide +kernel
theorem dX4_passTurn_71 : decode cX4_passTurn 71 = .ok (.aload_n 1, 1) := by decide +kernel
theorem dX4_passTurn_72 : decode cX4_passTurn 72 = .ok (.iload_n 2, 1) := by decide +kernel
theorem dX4_passTurn_73 : decode cX4_passTurn 73 = .ok (.invokevirtual 51, 3) := by decide +kernel
theorem dX4_passTurn_76 : decode cX4_passTurn 76 = .ok (.iinc 2 1, 3) := by decide +kernel
theorem dX4_passTurn_79 : decode cX4_passTurn 79 = .ok (.goto (-25), 3) := by decide +kernel
theorem dX4_passTurn_82 : decode cX4_passTurn 82 = .ok (.aload_n 0, 1) := by decide +kernel
theorem dX4_passTurn_83 : decode cX4_passTurn 83 = .ok (.aload_n 1, 1) := by decide +kernel
theorem dX4_passTurn_84 : decode cX4_passTurn 84 = .ok (.invokevirtual 54, 3) := by decide +kernel
theorem dX4_passTurn_87 : decode cX4_passTurn 87 = .ok (.return_, 1) := by decide +kernel
theorem dX4_changeLevel_0 : decode cX4_changeLevel 0 = .ok (.aload_n 1, 1) := by decide +kernel
theorem dX4_changeLevel_1 : decode cX4_changeLevel 1 = .ok (.getfield 37, 3) := by decide +kernel
theorem dX4_changeLevel_4 : decode cX4_changeLevel 4 = .ok (.istore_n 2, 1) := by decide +kernel
theorem dX4_changeLevel_5 : decode cX4_changeLevel 5 = .ok (.iconst 0, 1) := by decide +kernel
theorem dX4_changeLevel_6 : decode cX4_changeLevel 6 = .ok (.istore_n 3, 1) := by decide +kernel
theorem dX4_changeLevel_7 : decode cX4_changeLevel 7 = .ok (.iload_n 3, 1) := by decide +kernel
theorem dX4_changeLevel_8 : decode cX4_changeLevel 8 = .ok (.aload_n 1, 1) := by decide +kernel
theorem dX4_changeLevel_9 : decode cX4_changeLevel 9 = .ok (.getfield 57, 3) := by decide +kernel
theorem dX4_changeLevel_12 : decode cX4_changeLevel 12 = .ok (.if_icmp .ge 21, 3) := by decide +kernel
theorem dX4_changeLevel_15 : decode cX4_changeLevel 15 = .ok (.iload_n 2, 1) := by decide +kernel
theorem dX4_changeLevel_16 : decode cX4_changeLevel 16 = .ok (.aload_n 1, 1) := by decide +kernel
theorem dX4_changeLevel_17 : decode cX4_changeLevel 17 = .ok (.getfield 60, 3) := by decide +kernel
theorem dX4_changeLevel_20 : decode cX4_changeLevel 20 = .ok (.iload_n 3, 1) := by decide +kernel
theorem dX4_changeLevel_21 : decode cX4_changeLevel 21 = .ok (.iconst 2, 1) := by decide +kernel
theorem dX4_changeLevel_22 : decode cX4_changeLevel 22 = .ok (.invokevirtual 64, 3) := by decide +kernel
theorem dX4_changeLevel_25 : decode cX4_changeLevel 25 = .ok (.iadd, 1) := by decide +kernel
theorem dX4_changeLevel_26 : decode cX4_changeLevel 26 = .ok (.istore_n 2, 1) := by decide +kernel
theorem dX4_changeLevel_27 : decode cX4_changeLevel 27 = .ok (.iinc 3 1, 3) := by decide +kernel
theorem dX4_changeLevel_30 : decode cX4_changeLevel 30 = .ok (.goto (-23), 3) := by decide +kernel
theorem dX4_changeLevel_33 : decode cX4_changeLevel 33 = .ok (.iconst 0, 1) := by decide +kernel
theorem dX4_changeLevel_34 : decode cX4_changeLevel 34 = .ok (.istore_n 3, 1) := by decide +kernel
theorem dX4_changeLevel_35 : decode cX4_changeLevel 35 = .ok (.iload_n 3, 1) := by decide +kernel
theorem dX4_changeLevel_36 : decode cX4_changeLevel 36 = .ok (.aload_n 1, 1) := by decide +kernel
theorem dX4_changeLevel_37 : decode cX4_changeLevel 37 = .ok (.getfield 70, 3) := by decide +kernel
theorem dX4_changeLevel_40 : decode cX4_changeLevel 40 = .ok (.if_icmp .ge 29, 3) := by decide +kernel
theorem dX4_changeLevel_43 : decode cX4_changeLevel 43 = .ok (.aload_n 1, 1) := by decide +kernel
theorem dX4_changeLevel_44 : decode cX4_changeLevel 44 = .ok (.iload_n 3, 1) := by decide +kernel
theorem dX4_changeLevel_45 : decode cX4_changeLevel 45 = .ok (.invokevirtual 73, 3) := by decide +kernel
theorem dX4_changeLevel_48 : decode cX4_changeLevel 48 = .ok (.ifCond .eq 15, 3) := by decide +kernel
theorem dX4_changeLevel_51 : decode cX4_changeLevel 51 = .ok (.iload_n 2, 1) := by decide +kernel
theorem dX4_changeLevel_52 : decode cX4_changeLevel 52 = .ok (.aload_n 1, 1) := by decide +kernel
theorem dX4_changeLevel_53 : decode cX4_changeLevel 53 = .ok (.getfield 76, 3) := by decide +kernel
theorem dX4_changeLevel_56 : decode cX4_changeLevel 56 = .ok (.iload_n 3, 1) := by decide +kernel
theorem dX4_changeLevel_57 : decode cX4_changeLevel 57 = .ok (.iconst 3, 1) := by decide +kernel
theorem dX4_changeLevel_58 : decode cX4_changeLevel 58 = .ok (.invokevirtual 64, 3) := by decide +kernel
theorem dX4_changeLevel_61 : decode cX4_changeLevel 61 = .ok (.isub, 1) := by decide +kernel
theorem dX4_changeLevel_62 : decode cX4_changeLevel 62 = .ok (.istore_n 2, 1) := by decide +kernel
theorem dX4_changeLevel_63 : decode cX4_changeLevel 63 = .ok (.iinc 3 1, 3) := by decide +kernel
theorem dX4_changeLevel_66 : decode cX4_changeLevel 66 = .ok (.goto (-31), 3) := by decide +kernel
theorem dX4_changeLevel_69 : decode cX4_changeLevel 69 = .ok (.aload_n 1, 1) := by decide +kernel
theorem dX4_changeLevel_70 : decode cX4_changeLevel 70 = .ok (.iconst 0, 1) := by decide +kernel
theorem dX4_changeLevel_71 : decode cX4_changeLevel 71 = .ok (.iload_n 2, 1) := by decide +kernel
theorem dX4_changeLevel_72 : decode cX4_changeLevel 72 = .ok (.sipush 1000, 3) := by decide +kernel
theorem dX4_changeLevel_75 : decode cX4_changeLevel 75 = .ok (.invokestatic 79, 3) := by decide +kernel
theorem dX4_changeLevel_78 : decode cX4_changeLevel 78 = .ok (.invokestatic 84, 3) := by decide +kernel
theorem dX4_changeLevel_81 : decode cX4_changeLevel 81 = .ok (.putfield 37, 3) := by decide +kernel
theorem dX4_changeLevel_84 : decode cX4_changeLevel 84 = .ok (.return_, 1) := by decide +kernel
theorem dX4_driftOn_0 : decode cX4_driftOn 0 = .ok (.aload_n 0, 1) := by decide +kernel
theorem dX4_driftOn_1 : decode cX4_driftOn 1 = .ok (.getfield 12, 3) := by decide +kernel
theorem dX4_driftOn_4 : decode cX4_driftOn 4 = .ok (.aload_n 1, 1) := by decide +kernel
theorem dX4_driftOn_5 : decode cX4_driftOn 5 = .ok (.aload_n 1, 1) := by decide +kernel
theorem dX4_driftOn_6 : decode cX4_driftOn 6 = .ok (.getfield 87, 3) := by decide +kernel
theorem dX4_driftOn_9 : decode cX4_driftOn 9 = .ok (.iload_n 2, 1) := by decide +kernel
theorem dX4_driftOn_10 : decode cX4_driftOn 10 = .ok (.iconst 0, 1) := by decide +kernel
theorem dX4_driftOn_11 : decode cX4_driftOn 11 = .ok (.invokevirtual 64, 3) := by decide +kernel
theorem dX4_driftOn_14 : decode cX4_driftOn 14 = .ok (.aload_n 1, 1) := by decide +kernel
theorem dX4_driftOn_15 : decode cX4_driftOn 15 = .ok (.getfield 87, 3) := by decide +kernel
theorem dX4_driftOn_18 : decode cX4_driftOn 18 = .ok (.iload_n 2, 1) := by decide +kernel
theorem dX4_driftOn_19 : decode cX4_driftOn 19 = .ok (.iconst 1, 1) := by decide +kernel
theorem dX4_driftOn_20 : decode cX4_driftOn 20 = .ok (.invokevirtual 64, 3) := by decide +kernel
theorem dX4_driftOn_23 : decode cX4_driftOn 23 = .ok (.invokevirtual 90, 3) := by decide +kernel
theorem dX4_driftOn_26 : decode cX4_driftOn 26 = .ok (.aload_n 0, 1) := by decide +kernel
theorem dX4_driftOn_27 : decode cX4_driftOn 27 = .ok (.aload_n 1, 1) := by decide +kernel
theorem dX4_driftOn_28 : decode cX4_driftOn 28 = .ok (.iload_n 2, 1) := by decide +kernel
theorem dX4_driftOn_29 : decode cX4_driftOn 29 = .ok (.iconst 0, 1) := by decide +kernel
theorem dX4_driftOn_30 : decode cX4_driftOn 30 = .ok (.invokevirtual 94, 3) := by decide +kernel
theorem dX4_driftOn_33 : decode cX4_driftOn 33 = .ok (.istore_n 3, 1) := by decide +kernel
theorem dX4_driftOn_34 : decode cX4_driftOn 34 = .ok (.aload_n 0, 1) := by decide +kernel
theorem dX4_driftOn_35 : decode cX4_driftOn 35 = .ok (.aload_n 1, 1) := by decide +kernel
theorem dX4_driftOn_36 : decode cX4_driftOn 36 = .ok (.iload_n 2, 1) := by decide +kernel
theorem dX4_driftOn_37 : decode cX4_driftOn 37 = .ok (.iconst 1, 1) := by decide +kernel
theorem dX4_driftOn_38 : decode cX4_driftOn 38 = .ok (.invokevirtual 94, 3) := by decide +kernel
theorem dX4_driftOn_41 : decode cX4_driftOn 41 = .ok (.istore 4, 2) := by decide +kernel
theorem dX4_driftOn_43 : decode cX4_driftOn 43 = .ok (.aload_n 1, 1) := by decide +kernel
theorem dX4_driftOn_44 : decode cX4_driftOn 44 = .ok (.iload_n 2, 1) := by decide +kernel
theorem dX4_driftOn_45 : decode cX4_driftOn 45 = .ok (.iconst 5, 1) := by decide +kernel
theorem dX4_driftOn_46 : decode cX4_driftOn 46 = .ok (.iload_n 3, 1) := by decide +kernel
theorem dX4_driftOn_47 : decode cX4_driftOn 47 = .ok (.invokevirtual 98, 3) := by decide +kernel
theorem dX4_driftOn_50 : decode cX4_driftOn 50 = .ok (.aload_n 1, 1) := by decide +kernel
theorem dX4_driftOn_51 : decode cX4_driftOn 51 = .ok (.iload_n 2, 1) := by decide +kernel
theorem dX4_driftOn_52 : decode cX4_driftOn 52 = .ok (.bipush 6, 2) := by decide +kernel
theorem dX4_driftOn_54 : decode cX4_driftOn 54 = .ok (.iload 4, 2) := by decide +kernel
theorem dX4_driftOn_56 : decode cX4_driftOn 56 = .ok (.invokevirtual 98, 3) := by decide +kernel
theorem dX4_driftOn_59 : decode cX4_driftOn 59 = .ok (.aload_n 0, 1) := by decide +kernel
theorem dX4_driftOn_60 : decode cX4_driftOn 60 = .ok (.aload_n 1, 1) := by decide +kernel
theorem dX4_driftOn_61 : decode cX4_driftOn 61 = .ok (.iload_n 2, 1) := by decide +kernel
theorem dX4_driftOn_62 : decode cX4_driftOn 62 = .ok (.iconst 0, 1) := by decide +kernel
theorem dX4_driftOn_63 : decode cX4_driftOn 63 = .ok (.invokevirtual 102, 3) := by decide +kernel
theorem dX4_driftOn_66 : decode cX4_driftOn 66 = .ok (.aload_n 0, 1) := by decide +kernel
theorem dX4_driftOn_67 : decode cX4_driftOn 67 = .ok (.aload_n 1, 1) := by decide +kernel
theorem dX4_driftOn_68 : decode cX4_driftOn 68 = .ok (.iload_n 2, 1) := by decide +kernel
theorem dX4_driftOn_69 : decode cX4_driftOn 69 = .ok (.iconst 1, 1) := by decide +kernel
theorem dX4_driftOn_70 : decode cX4_driftOn 70 = .ok (.invokevirtual 102, 3) := by decide +kernel
theorem dX4_driftOn_73 : decode cX4_driftOn 73 = .ok (.return_, 1) := by decide +kernel
theorem dX4_growth_0 : decode cX4_growth 0 = .ok (.aload_n 1, 1) := by decide +kernel
theorem dX4_growth_1 : decode cX4_growth 1 = .ok (.getfield 87, 3) := by decide +kernel
theorem dX4_growth_4 : decode cX4_growth 4 = .ok (.iload_n 2, 1) := by decide +kernel
theorem dX4_growth_5 : decode cX4_growth 5 = .ok (.iconst 2, 1) := by decide +kernel
theorem dX4_growth_6 : decode cX4_growth 6 = .ok (.invokevirtual 64, 3) := by decide +kernel
theorem dX4_growth_9 : decode cX4_growth 9 = .ok (.istore 4, 2) := by decide +kernel
theorem dX4_growth_11 : decode cX4_growth 11 = .ok (.iload 4, 2) := by decide +kernel
theorem dX4_growth_13 : decode cX4_growth 13 = .ok (.ifCond .gt 5, 3) := by decide +kernel
theorem dX4_growth_16 : decode cX4_growth 16 = .ok (.iconst 0, 1) := by decide +kernel
theorem dX4_growth_17 : decode cX4_growth 17 = .ok (.ireturn, 1) := by decide +kernel
theorem dX4_growth_18 : decode cX4_growth 18 = .ok (.aload_n 1, 1) := by decide +kernel
theorem dX4_growth_19 : decode cX4_growth 19 = .ok (.getfield 87, 3) := by decide +kernel
theorem dX4_growth_22 : decode cX4_growth 22 = .ok (.iload_n 2, 1) := by decide +kernel
theorem dX4_growth_23 : decode cX4_growth 23 = .ok (.iconst 0, 1) := by decide +kernel
theorem dX4_growth_24 : decode cX4_growth 24 = .ok (.invokevirtual 64, 3) := by decide +kernel
theorem dX4_growth_27 : decode cX4_growth 27 = .ok (.istore 5, 2) := by decide +kernel
theorem dX4_growth_29 : decode cX4_growth 29 = .ok (.aload_n 1, 1) := by decide +kernel
theorem dX4_growth_30 : decode cX4_growth 30 = .ok (.getfield 87, 3) := by decide +kernel
theorem dX4_growth_33 : decode cX4_growth 33 = .ok (.iload_n 2, 1) := by decide +kernel
theorem dX4_growth_34 : decode cX4_growth 34 = .ok (.iconst 1, 1) := by decide +kernel
theorem dX4_growth_35 : decode cX4_growth 35 = .ok (.invokevirtual 64, 3) := by decide +kernel
theorem dX4_growth_38 : decode cX4_growth 38 = .ok (.istore 6, 2) := by decide +kernel
theorem dX4_growth_40 : decode cX4_growth 40 = .ok (.iload_n 3, 1) := by decide +kernel
theorem dX4_growth_41 : decode cX4_growth 41 = .ok (.ifCond .ne 7, 3) := by decide +kernel
theorem dX4_growth_44 : decode cX4_growth 44 = .ok (.iconst 1, 1) := by decide +kernel
theorem dX4_growth_45 : decode cX4_growth 45 = .ok (.goto 4, 3) := by decide +kernel
theorem dX4_growth_48 : decode cX4_growth 48 = .ok (.iconst 0, 1) := by decide +kernel
theorem dX4_growth_49 : decode cX4_growth 49 = .ok (.istore 7, 2) := by decide +kernel
theorem dX4_growth_51 : decode cX4_growth 51 = .ok (.iload_n 3, 1) := by decide +kernel
theorem dX4_growth_52 : decode cX4_growth 52 = .ok (.iconst 1, 1) := by decide +kernel
theorem dX4_growth_53 : decode cX4_growth 53 = .ok (.if_icmp .ne 7, 3) := by decide +kernel
theorem dX4_growth_56 : decode cX4_growth 56 = .ok (.iconst 1, 1) := by decide +kernel
theorem dX4_growth_57 : decode cX4_growth 57 = .ok (.goto 4, 3) := by decide +kernel
theorem dX4_growth_60 : decode cX4_growth 60 = .ok (.iconst 0, 1) := by decide +kernel
theorem dX4_growth_61 : decode cX4_growth 61 = .ok (.istore 8, 2) := by decide +kernel
theorem dX4_growth_63 : decode cX4_growth 63 = .ok (.iload_n 3, 1) := by decide +kernel
theorem dX4_growth_64 : decode cX4_growth 64 = .ok (.ifCond .ne 13, 3) := by decide +kernel
theorem dX4_growth_67 : decode cX4_growth 67 = .ok (.aload_n 0, 1) := by decide +kernel
theorem dX4_growth_68 : decode cX4_growth 68 = .ok (.getfield 12, 3) := by decide +kernel
theorem dX4_growth_71 : decode cX4_growth 71 = .ok (.getfield 105, 3) := by decide +kernel
theorem dX4_growth_74 : decode cX4_growth 74 = .ok (.goto 10, 3) := by decide +kernel
theorem dX4_growth_77 : decode cX4_growth 77 = .ok (.aload_n 0, 1) := by decide +kernel
theorem dX4_growth_78 : decode cX4_growth 78 = .ok (.getfield 12, 3) := by decide +kernel
theorem dX4_growth_81 : decode cX4_growth 81 = .ok (.getfield 109, 3) := by decide +kernel
theorem dX4_growth_84 : decode cX4_growth 84 = .ok (.fstore 9, 2) := by decide +kernel
theorem dX4_growth_86 : decode cX4_growth 86 = .ok (.fload 9, 2) := by decide +kernel
theorem dX4_growth_88 : decode cX4_growth 88 = .ok (.aload_n 1, 1) := by decide +kernel
theorem dX4_growth_89 : decode cX4_growth 89 = .ok (.getfield 37, 3) := by decide +kernel
theorem dX4_growth_92 : decode cX4_growth 92 = .ok (.i2f, 1) := by decide +kernel
theorem dX4_growth_93 : decode cX4_growth 93 = .ok (.fmul, 1) := by decide +kernel
theorem dX4_growth_94 : decode cX4_growth 94 = .ok (.bipush 10, 2) := by decide +kernel
theorem dX4_growth_96 : decode cX4_growth 96 = .ok (.iload 4, 2) := by decide +kernel
theorem dX4_growth_98 : decode cX4_growth 98 = .ok (.imul, 1) := by decide +kernel
theorem dX4_growth_99 : decode cX4_growth 99 = .ok (.i2f, 1) := by decide +kernel
theorem dX4_growth_100 : decode cX4_growth 100 = .ok (.fdiv, 1) := by decide +kernel
theorem dX4_growth_101 : decode cX4_growth 101 = .ok (.f2i, 1) := by decide +kernel
theorem dX4_growth_102 : decode cX4_growth 102 = .ok (.istore 10, 2) := by decide +kernel
theorem dX4_growth_104 : decode cX4_growth 104 = .ok (.aload_n 1, 1) := by decide +kernel
theorem dX4_growth_105 : decode cX4_growth 105 = .ok (.getfield 112, 3) := by decide +kernel
theorem dX4_growth_108 : decode cX4_growth 108 = .ok (.aload_n 1, 1) := by decide +kernel
theorem dX4_growth_109 : decode cX4_growth 109 = .ok (.getfield 115, 3) := by decide +kernel
theorem dX4_growth_112 : decode cX4_growth 112 = .ok (.aload_n 1, 1) := by decide +kernel
theorem dX4_growth_113 : decode cX4_growth 113 = .ok (.iload 5, 2) := by decide +kernel
theorem dX4_growth_115 : decode cX4_growth 115 = .ok (.iload 7, 2) := by decide +kernel
theorem dX4_growth_117 : decode cX4_growth 117 = .ok (.isub, 1) := by decide +kernel
theorem dX4_growth_118 : decode cX4_growth 118 = .ok (.iload 6, 2) := by decide +kernel
theorem dX4_growth_120 : decode cX4_growth 120 = .ok (.iload 8, 2) := by decide +kernel
theorem dX4_growth_122 : decode cX4_growth 122 = .ok (.isub, 1) := by decide +kernel
theorem dX4_growth_123 : decode cX4_growth 123 = .ok (.invokevirtual 118, 3) := by decide +kernel
theorem dX4_growth_126 : decode cX4_growth 126 = .ok (.invokevirtual 121, 3) := by decide +kernel
theorem dX4_growth_129 : decode cX4_growth 129 = .ok (.aload_n 1, 1) := by decide +kernel
theorem dX4_growth_130 : decode cX4_growth 130 = .ok (.getfield 115, 3) := by decide +kernel
theorem dX4_growth_133 : decode cX4_growth 133 = .ok (.aload_n 1, 1) := by decide +kernel
theorem dX4_growth_134 : decode cX4_growth 134 = .ok (.iload 5, 2) := by decide +kernel
theorem dX4_growth_136 : decode cX4_growth 136 = .ok (.iload 7, 2) := by decide +kernel
theorem dX4_growth_138 : decode cX4_growth 138 = .ok (.iadd, 1) := by decide +kernel
theorem dX4_growth_139 : decode cX4_growth 139 = .ok (.iload 6, 2) := by decide +kernel
theorem dX4_growth_141 : decode cX4_growth 141 = .ok (.iload 8, 2) := by decide +kernel
theorem dX4_growth_143 : decode cX4_growth 143 = .ok (.iadd, 1) := by decide +kernel
theorem dX4_growth_144 : decode cX4_growth 144 = .ok (.invokevirtual 118, 3) := by decide +kernel
theorem dX4_growth_147 : decode cX4_growth 147 = .ok (.invokevirtual 121, 3) := by decide +kernel
theorem dX4_growth_150 : decode cX4_growth 150 = .ok (.isub, 1) := by decide +kernel
theorem dX4_growth_151 : decode cX4_growth 151 = .ok (.imul, 1) := by decide +kernel
theorem dX4_growth_152 : decode cX4_growth 152 = .ok (.istore 11, 2) := by decide +kernel
theorem dX4_growth_154 : decode cX4_growth 154 = .ok (.bipush 10, 2) := by decide +kernel
theorem dX4_growth_156 : decode cX4_growth 156 = .ok (.iload_n 3, 1) := by decide +kernel
theorem dX4_growth_157 : decode cX4_growth 157 = .ok (.ifCond .ne 10, 3) := by decide +kernel
theorem dX4_growth_160 : decode cX4_growth 160 = .ok (.aload_n 1, 1) := by decide +kernel
theorem dX4_growth_161 : decode cX4_growth 161 = .ok (.getfield 124, 3) := by decide +kernel
theorem dX4_growth_164 : decode cX4_growth 164 = .ok (.goto 7, 3) := by decide +kernel
theorem dX4_growth_167 : decode cX4_growth 167 = .ok (.aload_n 1, 1) := by decide +kernel
theorem dX4_growth_168 : decode cX4_growth 168 = .ok (.getfield 127, 3) := by decide +kernel
theorem dX4_growth_171 : decode cX4_growth 171 = .ok (.imul, 1) := by decide +kernel
theorem dX4_growth_172 : decode cX4_growth 172 = .ok (.iload 4, 2) := by decide +kernel
theorem dX4_growth_174 : decode cX4_growth 174 = .ok (.idiv, 1) := by decide +kernel
theorem dX4_growth_175 : decode cX4_growth 175 = .ok (.istore 12, 2) := by decide +kernel
theorem dX4_growth_177 : decode cX4_growth 177 = .ok (.iload 10, 2) := by decide +kernel
theorem dX4_growth_179 : decode cX4_growth 179 = .ok (.iload 11, 2) := by decide +kernel
theorem dX4_growth_181 : decode cX4_growth 181 = .ok (.iadd, 1) := by decide +kernel
theorem dX4_growth_182 : decode cX4_growth 182 = .ok (.iload 12, 2) := by decide +kernel
theorem dX4_growth_184 : decode cX4_growth 184 = .ok (.iadd, 1) := by decide +kernel
theorem dX4_growth_185 : decode cX4_growth 185 = .ok (.ireturn, 1) := by decide +kernel
theorem dX4_moveOn_0 : decode cX4_moveOn 0 = .ok (.aload_n 1, 1) := by decide +kernel
theorem dX4_moveOn_1 : decode cX4_moveOn 1 = .ok (.getfield 87, 3) := by decide +kernel
theorem dX4_moveOn_4 : decode cX4_moveOn 4 = .ok (.iload_n 2, 1) := by decide +kernel
theorem dX4_moveOn_5 : decode cX4_moveOn 5 = .ok (.iconst 5, 1) := by decide +kernel
theorem dX4_moveOn_6 : decode cX4_moveOn 6 = .ok (.iload_n 3, 1) := by decide +kernel
theorem dX4_moveOn_7 : decode cX4_moveOn 7 = .ok (.iadd, 1) := by decide +kernel
theorem dX4_moveOn_8 : decode cX4_moveOn 8 = .ok (.invokevirtual 64, 3) := by decide +kernel
theorem dX4_moveOn_11 : decode cX4_moveOn 11 = .ok (.istore 4, 2) := by decide +kernel
theorem dX4_moveOn_13 : decode cX4_moveOn 13 = .ok (.iload 4, 2) := by decide +kernel
theorem dX4_moveOn_15 : decode cX4_moveOn 15 = .ok (.bipush 100, 2) := by decide +kernel
theorem dX4_moveOn_17 : decode cX4_moveOn 17 = .ok (.if_icmp .lt 7, 3) := by decide +kernel
theorem dX4_moveOn_20 : decode cX4_moveOn 20 = .ok (.iconst 1, 1) := by decide +kernel
theorem dX4_moveOn_21 : decode cX4_moveOn 21 = .ok (.goto 15, 3) := by decide +kernel
theorem dX4_moveOn_24 : decode cX4_moveOn 24 = .ok (.iload 4, 2) := by decide +kernel
theorem dX4_moveOn_26 : decode cX4_moveOn 26 = .ok (.bipush (-100), 2) := by decide +kernel
theorem dX4_moveOn_28 : decode cX4_moveOn 28 = .ok (.if_icmp .gt 7, 3) := by decide +kernel
theorem dX4_moveOn_31 : decode cX4_moveOn 31 = .ok (.iconst (-1), 1) := by decide +kernel
theorem dX4_moveOn_32 : decode cX4_moveOn 32 = .ok (.goto 4, 3) := by decide +kernel
theorem dX4_moveOn_35 : decode cX4_moveOn 35 = .ok (.iconst 0, 1) := by decide +kernel
theorem dX4_moveOn_36 : decode cX4_moveOn 36 = .ok (.istore 5, 2) := by decide +kernel
theorem dX4_moveOn_38 : decode cX4_moveOn 38 = .ok (.iload 5, 2) := by decide +kernel
theorem dX4_moveOn_40 : decode cX4_moveOn 40 = .ok (.ifCond .ne 4, 3) := by decide +kernel
theorem dX4_moveOn_43 : decode cX4_moveOn 43 = .ok (.return_, 1) := by decide +kernel
theorem dX4_moveOn_44 : decode cX4_moveOn 44 = .ok (.aload_n 1, 1) := by decide +kernel
theorem dX4_moveOn_45 : decode cX4_moveOn 45 = .ok (.getfield 87, 3) := by decide +kernel
theorem dX4_moveOn_48 : decode cX4_moveOn 48 = .ok (.iload_n 2, 1) := by decide +kernel
theorem dX4_moveOn_49 : decode cX4_moveOn 49 = .ok (.iconst 0, 1) := by decide +kernel
theorem dX4_moveOn_50 : decode cX4_moveOn 50 = .ok (.invokevirtual 64, 3) := by decide +kernel
theorem dX4_moveOn_53 : decode cX4_moveOn 53 = .ok (.iload_n 3, 1) := by decide +kernel
theorem dX4_moveOn_54 : decode cX4_moveOn 54 = .ok (.ifCond .ne 8, 3) := by decide +kernel
theorem dX4_moveOn_57 : decode cX4_moveOn 57 = .ok (.iload 5, 2) := by decide +kernel
theorem dX4_moveOn_59 : decode cX4_moveOn 59 = .ok (.goto 4, 3) := by decide +kernel
theorem dX4_moveOn_62 : decode cX4_moveOn 62 = .ok (.iconst 0, 1) := by decide +kernel
theorem dX4_moveOn_63 : decode cX4_moveOn 63 = .ok (.iadd, 1) := by decide +kernel
theorem dX4_moveOn_64 : decode cX4_moveOn 64 = .ok (.istore 6, 2) := by decide +kernel
theorem dX4_moveOn_66 : decode cX4_moveOn 66 = .ok (.aload_n 1, 1) := by decide +kernel
theorem dX4_moveOn_67 : decode cX4_moveOn 67 = .ok (.getfield 87, 3) := by decide +kernel
theorem dX4_moveOn_70 : decode cX4_moveOn 70 = .ok (.iload_n 2, 1) := by decide +kernel
theorem dX4_moveOn_71 : decode cX4_moveOn 71 = .ok (.iconst 1, 1) := by decide +kernel
theorem dX4_moveOn_72 : decode cX4_moveOn 72 = .ok (.invokevirtual 64, 3) := by decide +kernel
theorem dX4_moveOn_75 : decode cX4_moveOn 75 = .ok (.iload_n 3, 1) := by decide +kernel
theorem dX4_moveOn_76 : decode cX4_moveOn 76 = .ok (.iconst 1, 1) := by decide +kernel
theorem dX4_moveOn_77 : decode cX4_moveOn 77 = .ok (.if_icmp .ne 8, 3) := by decide +kernel
theorem dX4_moveOn_80 : decode cX4_moveOn 80 = .ok (.iload 5, 2) := by decide +kernel
theorem dX4_moveOn_82 : decode cX4_moveOn 82 = .ok (.goto 4, 3) := by decide +kernel
theorem dX4_moveOn_85 : decode cX4_moveOn 85 = .ok (.iconst 0, 1) := by decide +kernel
theorem dX4_moveOn_86 : decode cX4_moveOn 86 = .ok (.iadd, 1) := by decide +kernel
theorem dX4_moveOn_87 : decode cX4_moveOn 87 = .ok (.istore 7, 2) := by decide +kernel
theorem dX4_moveOn_89 : decode cX4_moveOn 89 = .ok (.aload_n 1, 1) := by decide +kernel
theorem dX4_moveOn_90 : decode cX4_moveOn 90 = .ok (.iload 6, 2) := by decide +kernel
theorem dX4_moveOn_92 : decode cX4_moveOn 92 = .ok (.iload 7, 2) := by decide +kernel
theorem dX4_moveOn_94 : decode cX4_moveOn 94 = .ok (.invokevirtual 118, 3) := by decide +kernel
theorem dX4_moveOn_97 : decode cX4_moveOn 97 = .ok (.istore 8, 2) := by decide +kernel
theorem dX4_moveOn_99 : decode cX4_moveOn 99 = .ok (.aload_n 1, 1) := by decide +kernel
theorem dX4_moveOn_100 : decode cX4_moveOn 100 = .ok (.getfield 130, 3) := by decide +kernel
theorem dX4_moveOn_103 : decode cX4_moveOn 103 = .ok (.iload 8, 2) := by decide +kernel
theorem dX4_moveOn_105 : decode cX4_moveOn 105 = .ok (.invokevirtual 121, 3) := by decide +kernel
theorem dX4_moveOn_108 : decode cX4_moveOn 108 = .ok (.istore 9, 2) := by decide +kernel
theorem dX4_moveOn_110 : decode cX4_moveOn 110 = .ok (.iload 8, 2) := by decide +kernel
theorem dX4_moveOn_112 : decode cX4_moveOn 112 = .ok (.iconst (-1), 1) := by decide +kernel
theorem dX4_moveOn_113 : decode cX4_moveOn 113 = .ok (.if_icmp .ne 18, 3) := by decide +kernel
theorem dX4_moveOn_116 : decode cX4_moveOn 116 = .ok (.aload_n 1, 1) := by decide +kernel
theorem dX4_moveOn_117 : decode cX4_moveOn 117 = .ok (.getfield 87, 3) := by decide +kernel
theorem dX4_moveOn_120 : decode cX4_moveOn 120 = .ok (.iload_n 2, 1) := by decide +kernel
theorem dX4_moveOn_121 : decode cX4_moveOn 121 = .ok (.iconst 5, 1) := by decide +kernel
theorem dX4_moveOn_122 : decode cX4_moveOn 122 = .ok (.iload_n 3, 1) := by decide +kernel
theorem dX4_moveOn_123 : decode cX4_moveOn 123 = .ok (.iadd, 1) := by decide +kernel
theorem dX4_moveOn_124 : decode cX4_moveOn 124 = .ok (.iconst 0, 1) := by decide +kernel
theorem dX4_moveOn_125 : decode cX4_moveOn 125 = .ok (.invokevirtual 133, 3) := by decide +kernel
theorem dX4_moveOn_128 : decode cX4_moveOn 128 = .ok (.goto 73, 3) := by decide +kernel
theorem dX4_moveOn_131 : decode cX4_moveOn 131 = .ok (.iload 9, 2) := by decide +kernel
theorem dX4_moveOn_133 : decode cX4_moveOn 133 = .ok (.iconst (-1), 1) := by decide +kernel
theorem dX4_moveOn_134 : decode cX4_moveOn 134 = .ok (.if_icmp .eq 17, 3) := by decide +kernel
theorem dX4_moveOn_137 : decode cX4_moveOn 137 = .ok (.aload_n 0, 1) := by decide +kernel
theorem dX4_moveOn_138 : decode cX4_moveOn 138 = .ok (.aload_n 1, 1) := by decide +kernel
theorem dX4_moveOn_139 : decode cX4_moveOn 139 = .ok (.iload_n 2, 1) := by decide +kernel
theorem dX4_moveOn_140 : decode cX4_moveOn 140 = .ok (.iload 9, 2) := by decide +kernel
theorem dX4_moveOn_142 : decode cX4_moveOn 142 = .ok (.iconst 5, 1) := by decide +kernel
theorem dX4_moveOn_143 : decode cX4_moveOn 143 = .ok (.iload_n 3, 1) := by decide +kernel
theorem dX4_moveOn_144 : decode cX4_moveOn 144 = .ok (.iadd, 1) := by decide +kernel
theorem dX4_moveOn_145 : decode cX4_moveOn 145 = .ok (.invokevirtual 136, 3) := by decide +kernel
theorem dX4_moveOn_148 : decode cX4_moveOn 148 = .ok (.goto 53, 3) := by decide +kernel
theorem dX4_moveOn_151 : decode cX4_moveOn 151 = .ok (.aload_n 1, 1) := by decide +kernel
theorem dX4_moveOn_152 : decode cX4_moveOn 152 = .ok (.iload_n 2, 1) := by decide +kernel
theorem dX4_moveOn_153 : decode cX4_moveOn 153 = .ok (.iload 6, 2) := by decide +kernel
theorem dX4_moveOn_155 : decode cX4_moveOn 155 = .ok (.iload 7, 2) := by decide +kernel
theorem dX4_moveOn_157 : decode cX4_moveOn 157 = .ok (.invokevirtual 140, 3) := by decide +kernel
theorem dX4_moveOn_160 : decode cX4_moveOn 160 = .ok (.aload_n 1, 1) := by decide +kernel
theorem dX4_moveOn_161 : decode cX4_moveOn 161 = .ok (.getfield 87, 3) := by decide +kernel
theorem dX4_moveOn_164 : decode cX4_moveOn 164 = .ok (.iload_n 2, 1) := by decide +kernel
theorem dX4_moveOn_165 : decode cX4_moveOn 165 = .ok (.iconst 5, 1) := by decide +kernel
theorem dX4_moveOn_166 : decode cX4_moveOn 166 = .ok (.iload_n 3, 1) := by decide +kernel
theorem dX4_moveOn_167 : decode cX4_moveOn 167 = .ok (.iadd, 1) := by decide +kernel
theorem dX4_moveOn_168 : decode cX4_moveOn 168 = .ok (.iload 4, 2) := by decide +kernel
theorem dX4_moveOn_170 : decode cX4_moveOn 170 = .ok (.bipush 100, 2) := by decide +kernel
theorem dX4_moveOn_172 : decode cX4_moveOn 172 = .ok (.iload 5, 2) := by decide +kernel
theorem dX4_moveOn_174 : decode cX4_moveOn 174 = .ok (.imul, 1) := by decide +kernel
theorem dX4_moveOn_175 : decode cX4_moveOn 175 = .ok (.isub, 1) := by decide +kernel
theorem dX4_moveOn_176 : decode cX4_moveOn 176 = .ok (.invokevirtual 133, 3) := by decide +kernel
theorem dX4_moveOn_179 : decode cX4_moveOn 179 = .ok (.aload_n 1, 1) := by decide +kernel
theorem dX4_moveOn_180 : decode cX4_moveOn 180 = .ok (.getfield 87, 3) := by decide +kernel
theorem dX4_moveOn_183 : decode cX4_moveOn 183 = .ok (.iload_n 2, 1) := by decide +kernel
theorem dX4_moveOn_184 : decode cX4_moveOn 184 = .ok (.bipush 9, 2) := by decide +kernel
theorem dX4_moveOn_186 : decode cX4_moveOn 186 = .ok (.aload_n 1, 1) := by decide +kernel
theorem dX4_moveOn_187 : decode cX4_moveOn 187 = .ok (.getfield 87, 3) := by decide +kernel
theorem dX4_moveOn_190 : decode cX4_moveOn 190 = .ok (.iload_n 2, 1) := by decide +kernel
theorem dX4_moveOn_191 : decode cX4_moveOn 191 = .ok (.bipush 9, 2) := by decide +kernel
theorem dX4_moveOn_193 : decode cX4_moveOn 193 = .ok (.invokevirtual 64, 3) := by decide +kernel
theorem dX4_moveOn_196 : decode cX4_moveOn 196 = .ok (.iconst 1, 1) := by decide +kernel
theorem dX4_moveOn_197 : decode cX4_moveOn 197 = .ok (.iadd, 1) := by decide +kernel
theorem dX4_moveOn_198 : decode cX4_moveOn 198 = .ok (.invokevirtual 133, 3) := by decide +kernel
theorem dX4_moveOn_201 : decode cX4_moveOn 201 = .ok (.return_, 1) := by decide +kernel
theorem dX4_collide_0 : decode cX4_collide 0 = .ok (.aload_n 1, 1) := by decide +kernel
theorem dX4_collide_1 : decode cX4_collide 1 = .ok (.getfield 87, 3) := by decide +kernel
theorem dX4_collide_4 : decode cX4_collide 4 = .ok (.iload_n 2, 1) := by decide +kernel
theorem dX4_collide_5 : decode cX4_collide 5 = .ok (.iconst 2, 1) := by decide +kernel
theorem dX4_collide_6 : decode cX4_collide 6 = .ok (.invokevirtual 64, 3) := by decide +kernel
theorem dX4_collide_9 : decode cX4_collide 9 = .ok (.istore 5, 2) := by decide +kernel
theorem dX4_collide_11 : decode cX4_collide 11 = .ok (.iload 5, 2) := by decide +kernel
theorem dX4_collide_13 : decode cX4_collide 13 = .ok (.aload_n 1, 1) := by decide +kernel
theorem dX4_collide_14 : decode cX4_collide 14 = .ok (.getfield 87, 3) := by decide +kernel
theorem dX4_collide_17 : decode cX4_collide 17 = .ok (.iload_n 3, 1) := by decide +kernel
theorem dX4_collide_18 : decode cX4_collide 18 = .ok (.iconst 2, 1) := by decide +kernel
theorem dX4_collide_19 : decode cX4_collide 19 = .ok (.invokevirtual 64, 3) := by decide +kernel
theorem dX4_collide_22 : decode cX4_collide 22 = .ok (.iadd, 1) := by decide +kernel
theorem dX4_collide_23 : decode cX4_collide 23 = .ok (.istore 6, 2) := by decide +kernel
theorem dX4_collide_25 : decode cX4_collide 25 = .ok (.aload_n 1, 1) := by decide +kernel
theorem dX4_collide_26 : decode cX4_collide 26 = .ok (.getfield 87, 3) := by decide +kernel
theorem dX4_collide_29 : decode cX4_collide 29 = .ok (.iload_n 2, 1) := by decide +kernel
theorem dX4_collide_30 : decode cX4_collide 30 = .ok (.iload 4, 2) := by decide +kernel
theorem dX4_collide_32 : decode cX4_collide 32 = .ok (.invokevirtual 64, 3) := by decide +kernel
theorem dX4_collide_35 : decode cX4_collide 35 = .ok (.iload 5, 2) := by decide +kernel
theorem dX4_collide_37 : decode cX4_collide 37 = .ok (.imul, 1) := by decide +kernel
theorem dX4_collide_38 : decode cX4_collide 38 = .ok (.istore 7, 2) := by decide +kernel
theorem dX4_collide_40 : decode cX4_collide 40 = .ok (.iload 6, 2) := by decide +kernel
theorem dX4_collide_42 : decode cX4_collide 42 = .ok (.ifCond .le 11, 3) := by decide +kernel
theorem dX4_collide_45 : decode cX4_collide 45 = .ok (.iload 7, 2) := by decide +kernel
theorem dX4_collide_47 : decode cX4_collide 47 = .ok (.iload 6, 2) := by decide +kernel
theorem dX4_collide_49 : decode cX4_collide 49 = .ok (.idiv, 1) := by decide +kernel
theorem dX4_collide_50 : decode cX4_collide 50 = .ok (.goto 4, 3) := by decide +kernel
theorem dX4_collide_53 : decode cX4_collide 53 = .ok (.iconst 0, 1) := by decide +kernel
theorem dX4_collide_54 : decode cX4_collide 54 = .ok (.istore 8, 2) := by decide +kernel
theorem dX4_collide_56 : decode cX4_collide 56 = .ok (.aload_n 1, 1) := by decide +kernel
theorem dX4_collide_57 : decode cX4_collide 57 = .ok (.getfield 87, 3) := by decide +kernel
theorem dX4_collide_60 : decode cX4_collide 60 = .ok (.iload_n 3, 1) := by decide +kernel
theorem dX4_collide_61 : decode cX4_collide 61 = .ok (.iload 4, 2) := by decide +kernel
theorem dX4_collide_63 : decode cX4_collide 63 = .ok (.aload_n 1, 1) := by decide +kernel
theorem dX4_collide_64 : decode cX4_collide 64 = .ok (.getfield 87, 3) := by decide +kernel
theorem dX4_collide_67 : decode cX4_collide 67 = .ok (.iload_n 3, 1) := by decide +kernel
theorem dX4_collide_68 : decode cX4_collide 68 = .ok (.iload 4, 2) := by decide +kernel
theorem dX4_collide_70 : decode cX4_collide 70 = .ok (.invokevirtual 64, 3) := by decide +kernel
theorem dX4_collide_73 : decode cX4_collide 73 = .ok (.iload 8, 2) := by decide +kernel
theorem dX4_collide_75 : decode cX4_collide 75 = .ok (.iadd, 1) := by decide +kernel
theorem dX4_collide_76 : decode cX4_collide 76 = .ok (.invokestatic 143, 3) := by decide +kernel
theorem dX4_collide_79 : decode cX4_collide 79 = .ok (.invokevirtual 133, 3) := by decide +kernel
theorem dX4_collide_82 : decode cX4_collide 82 = .ok (.aload_n 1, 1) := by decide +kernel
theorem dX4_collide_83 : decode cX4_collide 83 = .ok (.getfield 87, 3) := by decide +kernel
theorem dX4_collide_86 : decode cX4_collide 86 = .ok (.iload_n 2, 1) := by decide +kernel
theorem dX4_collide_87 : decode cX4_collide 87 = .ok (.iload 4, 2) := by decide +kernel
theorem dX4_collide_89 : decode cX4_collide 89 = .ok (.iconst 0, 1) := by decide +kernel
theorem dX4_collide_90 : decode cX4_collide 90 = .ok (.invokevirtual 133, 3) := by decide +kernel
theorem dX4_collide_93 : decode cX4_collide 93 = .ok (.aload_n 1, 1) := by decide +kernel
theorem dX4_collide_94 : decode cX4_collide 94 = .ok (.getfield 87, 3) := by decide +kernel
theorem dX4_collide_97 : decode cX4_collide 97 = .ok (.iload_n 2, 1) := by decide +kernel
theorem dX4_collide_98 : decode cX4_collide 98 = .ok (.bipush 10, 2) := by decide +kernel
theorem dX4_collide_100 : decode cX4_collide 100 = .ok (.aload_n 1, 1) := by decide +kernel
theorem dX4_collide_101 : decode cX4_collide 101 = .ok (.getfield 87, 3) := by decide +kernel
theorem dX4_collide_104 : decode cX4_collide 104 = .ok (.iload_n 2, 1) := by decide +kernel
theorem dX4_collide_105 : decode cX4_collide 105 = .ok (.bipush 10, 2) := by decide +kernel
theorem dX4_collide_107 : decode cX4_collide 107 = .ok (.invokevirtual 64, 3) := by decide +kernel
theorem dX4_collide_110 : decode cX4_collide 110 = .ok (.iconst 1, 1) := by decide +kernel
theorem dX4_collide_111 : decode cX4_collide 111 = .ok (.iadd, 1) := by decide +kernel
theorem dX4_collide_112 : decode cX4_collide 112 = .ok (.invokevirtual 133, 3) := by decide +kernel
theorem dX4_collide_115 : decode cX4_collide 115 = .ok (.return_, 1) := by decide +kernel
theorem dX4_soak_0 : decode cX4_soak 0 = .ok (.aload_n 1, 1) := by decide +kernel
theorem dX4_soak_1 : decode cX4_soak 1 = .ok (.iload_n 2, 1) := by decide +kernel
theorem dX4_soak_2 : decode cX4_soak 2 = .ok (.invokevirtual 146, 3) := by decide +kernel
theorem dX4_soak_5 : decode cX4_soak 5 = .ok (.istore_n 3, 1) := by decide +kernel
theorem dX4_soak_6 : decode cX4_soak 6 = .ok (.aload_n 1, 1) := by decide +kernel
theorem dX4_soak_7 : decode cX4_soak 7 = .ok (.getfield 87, 3) := by decide +kernel
theorem dX4_soak_10 : decode cX4_soak 10 = .ok (.iload_n 2, 1) := by decide +kernel
theorem dX4_soak_11 : decode cX4_soak 11 = .ok (.iconst 4, 1) := by decide +kernel
theorem dX4_soak_12 : decode cX4_soak 12 = .ok (.invokevirtual 64, 3) := by decide +kernel
theorem dX4_soak_15 : decode cX4_soak 15 = .ok (.iconst 1, 1) := by decide +kernel
theorem dX4_soak_16 : decode cX4_soak 16 = .ok (.iadd, 1) := by decide +kernel
theorem dX4_soak_17 : decode cX4_soak 17 = .ok (.aload_n 1, 1) := by decide +kernel
theorem dX4_soak_18 : decode cX4_soak 18 = .ok (.getfield 115, 3) := by decide +kernel
theorem dX4_soak_21 : decode cX4_soak 21 = .ok (.iload_n 3, 1) := by decide +kernel
theorem dX4_soak_22 : decode cX4_soak 22 = .ok (.invokevirtual 121, 3) := by decide +kernel
theorem dX4_soak_25 : decode cX4_soak 25 = .ok (.bipush 10, 2) := by decide +kernel
theorem dX4_soak_27 : decode cX4_soak 27 = .ok (.idiv, 1) := by decide +kernel
theorem dX4_soak_28 : decode cX4_soak 28 = .ok (.iadd, 1) := by decide +kernel
theorem dX4_soak_29 : decode cX4_soak 29 = .ok (.istore 4, 2) := by decide +kernel
theorem dX4_soak_31 : decode cX4_soak 31 = .ok (.aload_n 1, 1) := by decide +kernel
theorem dX4_soak_32 : decode cX4_soak 32 = .ok (.getfield 87, 3) := by decide +kernel
theorem dX4_soak_35 : decode cX4_soak 35 = .ok (.iload_n 2, 1) := by decide +kernel
theorem dX4_soak_36 : decode cX4_soak 36 = .ok (.iconst 4, 1) := by decide +kernel
theorem dX4_soak_37 : decode cX4_soak 37 = .ok (.iload 4, 2) := by decide +kernel
theorem dX4_soak_39 : decode cX4_soak 39 = .ok (.invokevirtual 133, 3) := by decide +kernel
theorem dX4_soak_42 : decode cX4_soak 42 = .ok (.iload 4, 2) := by decide +kernel
theorem dX4_soak_44 : decode cX4_soak 44 = .ok (.aload_n 1, 1) := by decide +kernel
theorem dX4_soak_45 : decode cX4_soak 45 = .ok (.getfield 87, 3) := by decide +kernel
theorem dX4_soak_48 : decode cX4_soak 48 = .ok (.iload_n 2, 1) := by decide +kernel
theorem dX4_soak_49 : decode cX4_soak 49 = .ok (.iconst 3, 1) := by decide +kernel
theorem dX4_soak_50 : decode cX4_soak 50 = .ok (.invokevirtual 64, 3) := by decide +kernel
theorem dX4_soak_53 : decode cX4_soak 53 = .ok (.if_icmp .le 12, 3) := by decide +kernel
theorem dX4_soak_56 : decode cX4_soak 56 = .ok (.aload_n 1, 1) := by decide +kernel
theorem dX4_soak_57 : decode cX4_soak 57 = .ok (.iload_n 2, 1) := by decide +kernel
theorem dX4_soak_58 : decode cX4_soak 58 = .ok (.iconst 1, 1) := by decide +kernel
theorem dX4_soak_59 : decode cX4_soak 59 = .ok (.invokevirtual 149, 3) := by decide +kernel
theorem dX4_soak_62 : decode cX4_soak 62 = .ok (.goto 47, 3) := by decide +kernel
theorem dX4_soak_65 : decode cX4_soak 65 = .ok (.aload_n 1, 1) := by decide +kernel
theorem dX4_soak_66 : decode cX4_soak 66 = .ok (.iload_n 3, 1) := by decide +kernel
theorem dX4_soak_67 : decode cX4_soak 67 = .ok (.iload_n 2, 1) := by decide +kernel
theorem dX4_soak_68 : decode cX4_soak 68 = .ok (.invokevirtual 152, 3) := by decide +kernel
theorem dX4_soak_71 : decode cX4_soak 71 = .ok (.ifCond .eq 38, 3) := by decide +kernel
theorem dX4_soak_74 : decode cX4_soak 74 = .ok (.aload_n 1, 1) := by decide +kernel
theorem dX4_soak_75 : decode cX4_soak 75 = .ok (.iload_n 3, 1) := by decide +kernel
theorem dX4_soak_76 : decode cX4_soak 76 = .ok (.invokevirtual 156, 3) := by decide +kernel
theorem dX4_soak_79 : decode cX4_soak 79 = .ok (.istore 5, 2) := by decide +kernel
theorem dX4_soak_81 : decode cX4_soak 81 = .ok (.aload_n 1, 1) := by decide +kernel
theorem dX4_soak_82 : decode cX4_soak 82 = .ok (.getfield 76, 3) := by decide +kernel
theorem dX4_soak_85 : decode cX4_soak 85 = .ok (.iload 5, 2) := by decide +kernel
theorem dX4_soak_87 : decode cX4_soak 87 = .ok (.iconst 5, 1) := by decide +kernel
theorem dX4_soak_88 : decode cX4_soak 88 = .ok (.aload_n 1, 1) := by decide +kernel
theorem dX4_soak_89 : decode cX4_soak 89 = .ok (.getfield 76, 3) := by decide +kernel
theorem dX4_soak_92 : decode cX4_soak 92 = .ok (.iload 5, 2) := by decide +kernel
theorem dX4_soak_94 : decode cX4_soak 94 = .ok (.iconst 5, 1) := by decide +kernel
theorem dX4_soak_95 : decode cX4_soak 95 = .ok (.invokevirtual 64, 3) := by decide +kernel
theorem dX4_soak_98 : decode cX4_soak 98 = .ok (.iconst 1, 1) := by decide +kernel
theorem dX4_soak_99 : decode cX4_soak 99 = .ok (.iadd, 1) := by decide +kernel
theorem dX4_soak_100 : decode cX4_soak 100 = .ok (.invokevirtual 133, 3) := by decide +kernel
theorem dX4_soak_103 : decode cX4_soak 103 = .ok (.aload_n 1, 1) := by decide +kernel
theorem dX4_soak_104 : decode cX4_soak 104 = .ok (.iload_n 2, 1) := by decide +kernel
theorem dX4_soak_105 : decode cX4_soak 105 = .ok (.iconst 2, 1) := by decide +kernel
theorem dX4_soak_106 : decode cX4_soak 106 = .ok (.invokevirtual 149, 3) := by decide +kernel
theorem dX4_soak_109 : decode cX4_soak 109 = .ok (.return_, 1) := by decide +kernel
theorem dX4_spreadSoap_0 : decode cX4_spreadSoap 0 = .ok (.aload_n 0, 1) := by decide +kernel
theorem dX4_spreadSoap_1 : decode cX4_spreadSoap 1 = .ok (.getfield 23, 3) := by decide +kernel
theorem dX4_spreadSoap_4 : decode cX4_spreadSoap 4 = .ok (.iconst 0, 1) := by decide +kernel
theorem dX4_spreadSoap_5 : decode cX4_spreadSoap 5 = .ok (.invokevirtual 159, 3) := by decide +kernel
theorem dX4_spreadSoap_8 : decode cX4_spreadSoap 8 = .ok (.iconst 0, 1) := by decide +kernel
theorem dX4_spreadSoap_9 : decode cX4_spreadSoap 9 = .ok (.istore_n 2, 1) := by decide +kernel
theorem dX4_spreadSoap_10 : decode cX4_spreadSoap 10 = .ok (.iload_n 2, 1) := by decide +kernel
theorem dX4_spreadSoap_11 : decode cX4_spreadSoap 11 = .ok (.aload_n 1, 1) := by decide +kernel
theorem dX4_spreadSoap_12 : decode cX4_spreadSoap 12 = .ok (.getfield 163, 3) := by decide +kernel
theorem dX4_spreadSoap_15 : decode cX4_spreadSoap 15 = .ok (.if_icmp .ge 102, 3) := by decide +kernel
theorem dX4_spreadSoap_18 : decode cX4_spreadSoap 18 = .ok (.iconst 0, 1) := by decide +kernel
theorem dX4_spreadSoap_19 : decode cX4_spreadSoap 19 = .ok (.istore_n 3, 1) := by decide +kernel
theorem dX4_spreadSoap_20 : decode cX4_spreadSoap 20 = .ok (.iload_n 3, 1) := by decide +kernel
theorem dX4_spreadSoap_21 : decode cX4_spreadSoap 21 = .ok (.aload_n 1, 1) := by decide +kernel
theorem dX4_spreadSoap_22 : decode cX4_spreadSoap 22 = .ok (.getfield 166, 3) := by decide +kernel
theorem dX4_spreadSoap_25 : decode cX4_spreadSoap 25 = .ok (.if_icmp .ge 86, 3) := by decide +kernel
theorem dX4_spreadSoap_28 : decode cX4_spreadSoap 28 = .ok (.aload_n 1, 1) := by decide +kernel
theorem dX4_spreadSoap_29 : decode cX4_spreadSoap 29 = .ok (.iload_n 3, 1) := by decide +kernel
theorem dX4_spreadSoap_30 : decode cX4_spreadSoap 30 = .ok (.iload_n 2, 1) := by decide +kernel
theorem dX4_spreadSoap_31 : decode cX4_spreadSoap 31 = .ok (.invokevirtual 118, 3) := by decide +kernel
theorem dX4_spreadSoap_34 : decode cX4_spreadSoap 34 = .ok (.istore 4, 2) := by decide +kernel
theorem dX4_spreadSoap_36 : decode cX4_spreadSoap 36 = .ok (.aload_n 1, 1) := by decide +kernel
theorem dX4_spreadSoap_37 : decode cX4_spreadSoap 37 = .ok (.getfield 115, 3) := by decide +kernel
theorem dX4_spreadSoap_40 : decode cX4_spreadSoap 40 = .ok (.iload 4, 2) := by decide +kernel
theorem dX4_spreadSoap_42 : decode cX4_spreadSoap 42 = .ok (.invokevirtual 121, 3) := by decide +kernel
theorem dX4_spreadSoap_45 : decode cX4_spreadSoap 45 = .ok (.iconst 4, 1) := by decide +kernel
theorem dX4_spreadSoap_46 : decode cX4_spreadSoap 46 = .ok (.if_icmp .lt 59, 3) := by decide +kernel
theorem dX4_spreadSoap_49 : decode cX4_spreadSoap 49 = .ok (.aload_n 0, 1) := by decide +kernel
theorem dX4_spreadSoap_50 : decode cX4_spreadSoap 50 = .ok (.iload 4, 2) := by decide +kernel
theorem dX4_spreadSoap_52 : decode cX4_spreadSoap 52 = .ok (.aload_n 1, 1) := by decide +kernel
theorem dX4_spreadSoap_53 : decode cX4_spreadSoap 53 = .ok (.iload_n 3, 1) := by decide +kernel
theorem dX4_spreadSoap_54 : decode cX4_spreadSoap 54 = .ok (.iload_n 2, 1) := by decide +kernel
theorem dX4_spreadSoap_55 : decode cX4_spreadSoap 55 = .ok (.iconst 1, 1) := by decide +kernel
theorem dX4_spreadSoap_56 : decode cX4_spreadSoap 56 = .ok (.isub, 1) := by decide +kernel
theorem dX4_spreadSoap_57 : decode cX4_spreadSoap 57 = .ok (.invokevirtual 118, 3) := by decide +kernel
theorem dX4_spreadSoap_60 : decode cX4_spreadSoap 60 = .ok (.invokevirtual 169, 3) := by decide +kernel
theorem dX4_spreadSoap_63 : decode cX4_spreadSoap 63 = .ok (.aload_n 0, 1) := by decide +kernel
theorem dX4_spreadSoap_64 : decode cX4_spreadSoap 64 = .ok (.iload 4, 2) := by decide +kernel
theorem dX4_spreadSoap_66 : decode cX4_spreadSoap 66 = .ok (.aload_n 1, 1) := by decide +kernel
theorem dX4_spreadSoap_67 : decode cX4_spreadSoap 67 = .ok (.iload_n 3, 1) := by decide +kernel
theorem dX4_spreadSoap_68 : decode cX4_spreadSoap 68 = .ok (.iconst 1, 1) := by decide +kernel
theorem dX4_spreadSoap_69 : decode cX4_spreadSoap 69 = .ok (.isub, 1) := by decide +kernel
theorem dX4_spreadSoap_70 : decode cX4_spreadSoap 70 = .ok (.iload_n 2, 1) := by decide +kernel
theorem dX4_spreadSoap_71 : decode cX4_spreadSoap 71 = .ok (.invokevirtual 118, 3) := by decide +kernel
theorem dX4_spreadSoap_74 : decode cX4_spreadSoap 74 = .ok (.invokevirtual 169, 3) := by decide +kernel
theorem dX4_spreadSoap_77 : decode cX4_spreadSoap 77 = .ok (.aload_n 0, 1) := by decide +kernel
theorem dX4_spreadSoap_78 : decode cX4_spreadSoap 78 = .ok (.iload 4, 2) := by decide +kernel
theorem dX4_spreadSoap_80 : decode cX4_spreadSoap 80 = .ok (.aload_n 1, 1) := by decide +kernel
theorem dX4_spreadSoap_81 : decode cX4_spreadSoap 81 = .ok (.iload_n 3, 1) := by decide +kernel
theorem dX4_spreadSoap_82 : decode cX4_spreadSoap 82 = .ok (.iconst 1, 1) := by decide +kernel
theorem dX4_spreadSoap_83 : decode cX4_spreadSoap 83 = .ok (.iadd, 1) := by decide +kernel
theorem dX4_spreadSoap_84 : decode cX4_spreadSoap 84 = .ok (.iload_n 2, 1) := by decide +kernel
theorem dX4_spreadSoap_85 : decode cX4_spreadSoap 85 = .ok (.invokevirtual 118, 3) := by decide +kernel
theorem dX4_spreadSoap_88 : decode cX4_spreadSoap 88 = .ok (.invokevirtual 169, 3) := by decide +kernel
theorem dX4_spreadSoap_91 : decode cX4_spreadSoap 91 = .ok (.aload_n 0, 1) := by decide +kernel
theorem dX4_spreadSoap_92 : decode cX4_spreadSoap 92 = .ok (.iload 4, 2) := by decide +kernel
theorem dX4_spreadSoap_94 : decode cX4_spreadSoap 94 = .ok (.aload_n 1, 1) := by decide +kernel
theorem dX4_spreadSoap_95 : decode cX4_spreadSoap 95 = .ok (.iload_n 3, 1) := by decide +kernel
theorem dX4_spreadSoap_96 : decode cX4_spreadSoap 96 = .ok (.iload_n 2, 1) := by decide +kernel
theorem dX4_spreadSoap_97 : decode cX4_spreadSoap 97 = .ok (.iconst 1, 1) := by decide +kernel
theorem dX4_spreadSoap_98 : decode cX4_spreadSoap 98 = .ok (.iadd, 1) := by decide +kernel
theorem dX4_spreadSoap_99 : decode cX4_spreadSoap 99 = .ok (.invokevirtual 118, 3) := by decide +kernel
theorem dX4_spreadSoap_102 : decode cX4_spreadSoap 102 = .ok (.invokevirtual 169, 3) := by decide +kernel
theorem dX4_spreadSoap_105 : decode cX4_spreadSoap 105 = .ok (.iinc 3 1, 3) := by decide +kernel
theorem dX4_spreadSoap_108 : decode cX4_spreadSoap 108 = .ok (.goto (-88), 3) := by decide +kernel
theorem dX4_spreadSoap_111 : decode cX4_spreadSoap 111 = .ok (.iinc 2 1, 3) := by decide +kernel
theorem dX4_spreadSoap_114 : decode cX4_spreadSoap 114 = .ok (.goto (-104), 3) := by decide +kernel
theorem dX4_spreadSoap_117 : decode cX4_spreadSoap 117 = .ok (.iconst 0, 1) := by decide +kernel
theorem dX4_spreadSoap_118 : decode cX4_spreadSoap 118 = .ok (.istore_n 2, 1) := by decide +kernel
theorem dX4_spreadSoap_119 : decode cX4_spreadSoap 119 = .ok (.iload_n 2, 1) := by decide +kernel
theorem dX4_spreadSoap_120 : decode cX4_spreadSoap 120 = .ok (.aload_n 1, 1) := by decide +kernel
theorem dX4_spreadSoap_121 : decode cX4_spreadSoap 121 = .ok (.invokevirtual 172, 3) := by decide +kernel
theorem dX4_spreadSoap_124 : decode cX4_spreadSoap 124 = .ok (.if_icmp .ge 22, 3) := by decide +kernel
theorem dX4_spreadSoap_127 : decode cX4_spreadSoap 127 = .ok (.aload_n 1, 1) := by decide +kernel
theorem dX4_spreadSoap_128 : decode cX4_spreadSoap 128 = .ok (.iload_n 2, 1) := by decide +kernel
theorem dX4_spreadSoap_129 : decode cX4_spreadSoap 129 = .ok (.aload_n 0, 1) := by decide +kernel
theorem dX4_spreadSoap_130 : decode cX4_spreadSoap 130 = .ok (.getfield 23, 3) := by decide +kernel
theorem dX4_spreadSoap_133 : decode cX4_spreadSoap 133 = .ok (.iload_n 2, 1) := by decide +kernel
theorem dX4_spreadSoap_134 : decode cX4_spreadSoap 134 = .ok (.invokevirtual 121, 3) := by decide +kernel
theorem dX4_spreadSoap_137 : decode cX4_spreadSoap 137 = .ok (.invokevirtual 176, 3) := by decide +kernel
theorem dX4_spreadSoap_140 : decode cX4_spreadSoap 140 = .ok (.iinc 2 1, 3) := by decide +kernel
theorem dX4_spreadSoap_143 : decode cX4_spreadSoap 143 = .ok (.goto (-24), 3) := by decide +kernel
theorem dX4_spreadSoap_146 : decode cX4_spreadSoap 146 = .ok (.return_, 1) := by decide +kernel
theorem dX4_give_0 : decode cX4_give 0 = .ok (.iload_n 2, 1) := by decide +kernel
theorem dX4_give_1 : decode cX4_give 1 = .ok (.iconst (-1), 1) := by decide +kernel
theorem dX4_give_2 : decode cX4_give 2 = .ok (.if_icmp .eq 39, 3) := by decide +kernel
theorem dX4_give_5 : decode cX4_give 5 = .ok (.aload_n 0, 1) := by decide +kernel
theorem dX4_give_6 : decode cX4_give 6 = .ok (.getfield 23, 3) := by decide +kernel
theorem dX4_give_9 : decode cX4_give 9 = .ok (.iload_n 1, 1) := by decide +kernel
theorem dX4_give_10 : decode cX4_give 10 = .ok (.aload_n 0, 1) := by decide +kernel
theorem dX4_give_11 : decode cX4_give 11 = .ok (.getfield 23, 3) := by decide +kernel
theorem dX4_give_14 : decode cX4_give 14 = .ok (.iload_n 1, 1) := by decide +kernel
theorem dX4_give_15 : decode cX4_give 15 = .ok (.invokevirtual 121, 3) := by decide +kernel
theorem dX4_give_18 : decode cX4_give 18 = .ok (.iconst 1, 1) := by decide +kernel
theorem dX4_give_19 : decode cX4_give 19 = .ok (.isub, 1) := by decide +kernel
theorem dX4_give_20 : decode cX4_give 20 = .ok (.invokevirtual 179, 3) := by decide +kernel
theorem dX4_give_23 : decode cX4_give 23 = .ok (.aload_n 0, 1) := by decide +kernel
theorem dX4_give_24 : decode cX4_give 24 = .ok (.getfield 23, 3) := by decide +kernel
theorem dX4_give_27 : decode cX4_give 27 = .ok (.iload_n 2, 1) := by decide +kernel
theorem dX4_give_28 : decode cX4_give 28 = .ok (.aload_n 0, 1) := by decide +kernel
theorem dX4_give_29 : decode cX4_give 29 = .ok (.getfield 23, 3) := by decide +kernel
theorem dX4_give_32 : decode cX4_give 32 = .ok (.iload_n 2, 1) := by decide +kernel
theorem dX4_give_33 : decode cX4_give 33 = .ok (.invokevirtual 121, 3) := by decide +kernel
theorem dX4_give_36 : decode cX4_give 36 = .ok (.iconst 1, 1) := by decide +kernel
theorem dX4_give_37 : decode cX4_give 37 = .ok (.iadd, 1) := by decide +kernel
theorem dX4_give_38 : decode cX4_give 38 = .ok (.invokevirtual 179, 3) := by decide +kernel
theorem dX4_give_41 : decode cX4_give 41 = .ok (.return_, 1) := by decide +kernel
theorem dX5_init_0 : decode cX5_init 0 = .ok (.aload_n 0, 1) := by decide +kernel
theorem dX5_init_1 : decode cX5_init 1 = .ok (.invokespecial 3, 3) := by decide +kernel
theorem dX5_init_4 : decode cX5_init 4 = .ok (.aload_n 0, 1) := by decide +kernel
theorem dX5_init_5 : decode cX5_init 5 = .ok (.aload_n 1, 1) := by decide +kernel
theorem dX5_init_6 : decode cX5_init 6 = .ok (.putfield 9, 3) := by decide +kernel
theorem dX5_init_9 : decode cX5_init 9 = .ok (.aload_n 0, 1) := by decide +kernel
theorem dX5_init_10 : decode cX5_init 10 = .ok (.aload_n 2, 1) := by decide +kernel
theorem dX5_init_11 : decode cX5_init 11 = .ok (.putfield 15, 3) := by decide +kernel
theorem dX5_init_14 : decode cX5_init 14 = .ok (.return_, 1) := by decide +kernel
theorem dX5_evaluate_0 : decode cX5_evaluate 0 = .ok (.aload_n 0, 1) := by decide +kernel
theorem dX5_evaluate_1 : decode cX5_evaluate 1 = .ok (.getfield 9, 3) := by decide +kernel
theorem dX5_evaluate_4 : decode cX5_evaluate 4 = .ok (.ldc 19, 2) := by decide +kernel
theorem dX5_evaluate_6 : decode cX5_evaluate 6 = .ok (.invokevirtual 21, 3) := by decide +kernel
theorem dX5_evaluate_9 : decode cX5_evaluate 9 = .ok (.istore_n 1, 1) := by decide +kernel
theorem dX5_evaluate_10 : decode cX5_evaluate 10 = .ok (.iload_n 1, 1) := by decide +kernel
theorem dX5_evaluate_11 : decode cX5_evaluate 11 = .ok (.ifCond .ne 23, 3) := by decide +kernel
theorem dX5_evaluate_14 : decode cX5_evaluate 14 = .ok (.aload_n 0, 1) := by decide +kernel
theorem dX5_evaluate_15 : decode cX5_evaluate 15 = .ok (.getfield 9, 3) := by decide +kernel
theorem dX5_evaluate_18 : decode cX5_evaluate 18 = .ok (.ldc 27, 2) := by decide +kernel
theorem dX5_evaluate_20 : decode cX5_evaluate 20 = .ok (.invokevirtual 21, 3) := by decide +kernel
theorem dX5_evaluate_23 : decode cX5_evaluate 23 = .ok (.ifCond .ne 11, 3) := by decide +kernel
theorem dX5_evaluate_26 : decode cX5_evaluate 26 = .ok (.aload_n 0, 1) := by decide +kernel
theorem dX5_evaluate_27 : decode cX5_evaluate 27 = .ok (.getfield 9, 3) := by decide +kernel
theorem dX5_evaluate_30 : decode cX5_evaluate 30 = .ok (.iconst 1, 1) := by decide +kernel
theorem dX5_evaluate_31 : decode cX5_evaluate 31 = .ok (.invokevirtual 29, 3) := by decide +kernel
theorem dX5_evaluate_34 : decode cX5_evaluate 34 = .ok (.aload_n 0, 1) := by decide +kernel
theorem dX5_evaluate_35 : decode cX5_evaluate 35 = .ok (.getfield 9, 3) := by decide +kernel
theorem dX5_evaluate_38 : decode cX5_evaluate 38 = .ok (.invokevirtual 33, 3) := by decide +kernel
theorem dX5_evaluate_41 : decode cX5_evaluate 41 = .ok (.aload_n 0, 1) := by decide +kernel
theorem dX5_evaluate_42 : decode cX5_evaluate 42 = .ok (.iconst 0, 1) := by decide +kernel
theorem dX5_evaluate_43 : decode cX5_evaluate 43 = .ok (.invokevirtual 36, 3) := by decide +kernel
theorem dX5_evaluate_46 : decode cX5_evaluate 46 = .ok (.istore_n 2, 1) := by decide +kernel
theorem dX5_evaluate_47 : decode cX5_evaluate 47 = .ok (.aload_n 0, 1) := by decide +kernel
theorem dX5_evaluate_48 : decode cX5_evaluate 48 = .ok (.getfield 9, 3) := by decide +kernel
theorem dX5_evaluate_51 : decode cX5_evaluate 51 = .ok (.getfield 40, 3) := by decide +kernel
theorem dX5_evaluate_54 : decode cX5_evaluate 54 = .ok (.ifCond .eq 11, 3) := by decide +kernel
theorem dX5_evaluate_57 : decode cX5_evaluate 57 = .ok (.aload_n 0, 1) := by decide +kernel
theorem dX5_evaluate_58 : decode cX5_evaluate 58 = .ok (.getfield 9, 3) := by decide +kernel
theorem dX5_evaluate_61 : decode cX5_evaluate 61 = .ok (.iconst 1, 1) := by decide +kernel
theorem dX5_evaluate_62 : decode cX5_evaluate 62 = .ok (.invokevirtual 29, 3) := by decide +kernel
theorem dX5_evaluate_65 : decode cX5_evaluate 65 = .ok (.iload_n 1, 1) := by decide +kernel
theorem dX5_evaluate_66 : decode cX5_evaluate 66 = .ok (.ifCond .eq 10, 3) := by decide +kernel
theorem dX5_evaluate_69 : decode cX5_evaluate 69 = .ok (.iload_n 2, 1) := by decide +kernel
theorem dX5_evaluate_70 : decode cX5_evaluate 70 = .ok (.invokestatic 44, 3) := by decide +kernel
theorem dX5_evaluate_73 : decode cX5_evaluate 73 = .ok (.goto 8, 3) := by decide +kernel
theorem dX5_evaluate_76 : decode cX5_evaluate 76 = .ok (.aload_n 0, 1) := by decide +kernel
theorem dX5_evaluate_77 : decode cX5_evaluate 77 = .ok (.iload_n 2, 1) := by decide +kernel
theorem dX5_evaluate_78 : decode cX5_evaluate 78 = .ok (.invokevirtual 49, 3) := by decide +kernel
theorem dX5_evaluate_81 : decode cX5_evaluate 81 = .ok (.ireturn, 1) := by decide +kernel
theorem dX5_firstOf_0 : decode cX5_firstOf 0 = .ok (.iconst 0, 1) := by decide +kernel
theorem dX5_firstOf_1 : decode cX5_firstOf 1 = .ok (.istore_n 2, 1) := by decide +kernel
theorem dX5_firstOf_2 : decode cX5_firstOf 2 = .ok (.iload_n 2, 1) := by decide +kernel
theorem dX5_firstOf_3 : decode cX5_firstOf 3 = .ok (.aload_n 0, 1) := by decide +kernel
theorem dX5_firstOf_4 : decode cX5_firstOf 4 = .ok (.getfield 15, 3) := by decide +kernel
theorem dX5_firstOf_7 : decode cX5_firstOf 7 = .ok (.getfield 52, 3) := by decide +kernel
theorem dX5_firstOf_10 : decode cX5_firstOf 10 = .ok (.if_icmp .ge 20, 3) := by decide +kernel
theorem dX5_firstOf_13 : decode cX5_firstOf 13 = .ok (.iload_n 1, 1) := by decide +kernel
theorem dX5_firstOf_14 : decode cX5_firstOf 14 = .ok (.iload_n 2, 1) := by decide +kernel
theorem dX5_firstOf_15 : decode cX5_firstOf 15 = .ok (.ishr, 1) := by decide +kernel
theorem dX5_firstOf_16 : decode cX5_firstOf 16 = .ok (.iconst 1, 1) := by decide +kernel
theorem dX5_firstOf_17 : decode cX5_firstOf 17 = .ok (.iand, 1) := by decide +kernel
theorem dX5_firstOf_18 : decode cX5_firstOf 18 = .ok (.iconst 1, 1) := by decide +kernel
theorem dX5_firstOf_19 : decode cX5_firstOf 19 = .ok (.if_icmp .ne 5, 3) := by decide +kernel
theorem dX5_firstOf_22 : decode cX5_firstOf 22 = .ok (.iload_n 2, 1) := by decide +kernel
theorem dX5_firstOf_23 : decode cX5_firstOf 23 = .ok (.ireturn, 1) := by decide +kernel
theorem dX5_firstOf_24 : decode cX5_firstOf 24 = .ok (.iinc 2 1, 3) := by decide +kernel
theorem dX5_firstOf_27 : decode cX5_firstOf 27 = .ok (.goto (-25), 3) := by decide +kernel
theorem dX5_firstOf_30 : decode cX5_firstOf 30 = .ok (.iconst (-1), 1) := by decide +kernel
theorem dX5_firstOf_31 : decode cX5_firstOf 31 = .ok (.ireturn, 1) := by decide +kernel
theorem dX5_readTest_0 : decode cX5_readTest 0 = .ok (.iconst 0, 1) := by decide +kernel
theorem dX5_readTest_1 : decode cX5_readTest 1 = .ok (.istore_n 2, 1) := by decide +kernel
theorem dX5_readTest_2 : decode cX5_readTest 2 = .ok (.aload_n 0, 1) := by decide +kernel
theorem dX5_readTest_3 : decode cX5_readTest 3 = .ok (.iload_n 1, 1) := by decide +kernel
theorem dX5_readTest_4 : decode cX5_readTest 4 = .ok (.invokevirtual 57, 3) := by decide +kernel
theorem dX5_readTest_7 : decode cX5_readTest 7 = .ok (.istore_n 3, 1) := by decide +kernel
theorem dX5_readTest_8 : decode cX5_readTest 8 = .ok (.iconst 0, 1) := by decide +kernel
theorem dX5_readTest_9 : decode cX5_readTest 9 = .ok (.istore 4, 2) := by decide +kernel
theorem dX5_readTest_11 : decode cX5_readTest 11 = .ok (.iload 4, 2) := by decide +kernel
theorem dX5_readTest_13 : decode cX5_readTest 13 = .ok (.sipush 200, 3) := by decide +kernel
theorem dX5_readTest_16 : decode cX5_readTest 16 = .ok (.if_icmp .ge 64, 3) := by decide +kernel
theorem dX5_readTest_19 : decode cX5_readTest 19 = .ok (.aload_n 0, 1) := by decide +kernel
theorem dX5_readTest_20 : decode cX5_readTest 20 = .ok (.getfield 9, 3) := by decide +kernel
theorem dX5_readTest_23 : decode cX5_readTest 23 = .ok (.invokevirtual 60, 3) := by decide +kernel
theorem dX5_readTest_26 : decode cX5_readTest 26 = .ok (.ifCond .eq 54, 3) := by decide +kernel
theorem dX5_readTest_29 : decode cX5_readTest 29 = .ok (.aload_n 0, 1) := by decide +kernel
theorem dX5_readTest_30 : decode cX5_readTest 30 = .ok (.getfield 9, 3) := by decide +kernel
theorem dX5_readTest_33 : decode cX5_readTest 33 = .ok (.ldc 64, 2) := by decide +kernel
theorem dX5_readTest_35 : decode cX5_readTest 35 = .ok (.invokevirtual 66, 3) := by decide +kernel
theorem dX5_readTest_38 : decode cX5_readTest 38 = .ok (.ifCond .eq 14, 3) := by decide +kernel
theorem dX5_readTest_41 : decode cX5_readTest 41 = .ok (.iload_n 3, 1) := by decide +kernel
theorem dX5_readTest_42 : decode cX5_readTest 42 = .ok (.aload_n 0, 1) := by decide +kernel
theorem dX5_readTest_43 : decode cX5_readTest 43 = .ok (.iload_n 1, 1) := by decide +kernel
theorem dX5_readTest_44 : decode cX5_readTest 44 = .ok (.invokevirtual 57, 3) := by decide +kernel
theorem dX5_readTest_47 : decode cX5_readTest 47 = .ok (.iand, 1) := by decide +kernel
theorem dX5_readTest_48 : decode cX5_readTest 48 = .ok (.istore_n 3, 1) := by decide +kernel
theorem dX5_readTest_49 : decode cX5_readTest 49 = .ok (.goto 25, 3) := by decide +kernel
theorem dX5_readTest_52 : decode cX5_readTest 52 = .ok (.aload_n 0, 1) := by decide +kernel
theorem dX5_readTest_53 : decode cX5_readTest 53 = .ok (.getfield 9, 3) := by decide +kernel
theorem dX5_readTest_56 : decode cX5_readTest 56 = .ok (.ldc 69, 2) := by decide +kernel
theorem dX5_readTest_58 : decode cX5_readTest 58 = .ok (.invokevirtual 66, 3) := by decide +kernel
theorem dX5_readTest_61 : decode cX5_readTest 61 = .ok (.ifCond .eq 19, 3) := by decide +kernel
theorem dX5_readTest_64 : decode cX5_readTest 64 = .ok (.iload_n 2, 1) := by decide +kernel
theorem dX5_readTest_65 : decode cX5_readTest 65 = .ok (.iload_n 3, 1) := by decide +kernel
theorem dX5_readTest_66 : decode cX5_readTest 66 = .ok (.ior, 1) := by decide +kernel
theorem dX5_readTest_67 : decode cX5_readTest 67 = .ok (.istore_n 2, 1) := by decide +kernel
theorem dX5_readTest_68 : decode cX5_readTest 68 = .ok (.aload_n 0, 1) := by decide +kernel
theorem dX5_readTest_69 : decode cX5_readTest 69 = .ok (.iload_n 1, 1) := by decide +kernel
theorem dX5_readTest_70 : decode cX5_readTest 70 = .ok (.invokevirtual 57, 3) := by decide +kernel
theorem dX5_readTest_73 : decode cX5_readTest 73 = .ok (.istore_n 3, 1) := by decide +kernel
theorem dX5_readTest_74 : decode cX5_readTest 74 = .ok (.iinc 4 1, 3) := by decide +kernel
theorem dX5_readTest_77 : decode cX5_readTest 77 = .ok (.goto (-66), 3) := by decide +kernel
theorem dX5_readTest_80 : decode cX5_readTest 80 = .ok (.iload_n 2, 1) := by decide +kernel
theorem dX5_readTest_81 : decode cX5_readTest 81 = .ok (.iload_n 3, 1) := by decide +kernel
theorem dX5_readTest_82 : decode cX5_readTest 82 = .ok (.ior, 1) := by decide +kernel
theorem dX5_readTest_83 : decode cX5_readTest 83 = .ok (.ireturn, 1) := by decide +kernel
theorem dX5_readFactor_0 : decode cX5_readFactor 0 = .ok (.aload_n 0, 1) := by decide +kernel
theorem dX5_readFactor_1 : decode cX5_readFactor 1 = .ok (.getfield 9, 3) := by decide +kernel
theorem dX5_readFactor_4 : decode cX5_readFactor 4 = .ok (.ldc 71, 2) := by decide +kernel
theorem dX5_readFactor_6 : decode cX5_readFactor 6 = .ok (.invokevirtual 21, 3) := by decide +kernel
theorem dX5_readFactor_9 : decode cX5_readFactor 9 = .ok (.istore_n 2, 1) := by decide +kernel
theorem dX5_readFactor_10 : decode cX5_readFactor 10 = .ok (.iload_n 2, 1) := by decide +kernel
theorem dX5_readFactor_11 : decode cX5_readFactor 11 = .ok (.ifCond .ne 15, 3) := by decide +kernel
theorem dX5_readFactor_14 : decode cX5_readFactor 14 = .ok (.aload_n 0, 1) := by decide +kernel
theorem dX5_readFactor_15 : decode cX5_readFactor 15 = .ok (.getfield 9, 3) := by decide +kernel
theorem dX5_readFactor_18 : decode cX5_readFactor 18 = .ok (.bipush 40, 2) := by decide +kernel
theorem dX5_readFactor_20 : decode cX5_readFactor 20 = .ok (.invokevirtual 73, 3) := by decide +kernel
theorem dX5_readFactor_23 : decode cX5_readFactor 23 = .ok (.ifCond .eq 71, 3) := by decide +kernel
theorem dX5_readFactor_26 : decode cX5_readFactor 26 = .ok (.iload_n 1, 1) := by decide +kernel
theorem dX5_readFactor_27 : decode cX5_readFactor 27 = .ok (.bipush 6, 2) := by decide +kernel
theorem dX5_readFactor_29 : decode cX5_readFactor 29 = .ok (.if_icmp .lt 13, 3) := by decide +kernel
theorem dX5_readFactor_32 : decode cX5_readFactor 32 = .ok (.aload_n 0, 1) := by decide +kernel
theorem dX5_readFactor_33 : decode cX5_readFactor 33 = .ok (.getfield 9, 3) := by decide +kernel
theorem dX5_readFactor_36 : decode cX5_readFactor 36 = .ok (.iconst 3, 1) := by decide +kernel
theorem dX5_readFactor_37 : decode cX5_readFactor 37 = .ok (.invokevirtual 29, 3) := by decide +kernel
theorem dX5_readFactor_40 : decode cX5_readFactor 40 = .ok (.iconst 0, 1) := by decide +kernel
theorem dX5_readFactor_41 : decode cX5_readFactor 41 = .ok (.ireturn, 1) := by decide +kernel
theorem dX5_readFactor_42 : decode cX5_readFactor 42 = .ok (.aload_n 0, 1) := by decide +kernel
theorem dX5_readFactor_43 : decode cX5_readFactor 43 = .ok (.getfield 9, 3) := by decide +kernel
theorem dX5_readFactor_46 : decode cX5_readFactor 46 = .ok (.invokevirtual 33, 3) := by decide +kernel
theorem dX5_readFactor_49 : decode cX5_readFactor 49 = .ok (.iload_n 2, 1) := by decide +kernel
theorem dX5_readFactor_50 : decode cX5_readFactor 50 = .ok (.ifCond .eq 25, 3) := by decide +kernel
theorem dX5_readFactor_53 : decode cX5_readFactor 53 = .ok (.aload_n 0, 1) := by decide +kernel
theorem dX5_readFactor_54 : decode cX5_readFactor 54 = .ok (.iload_n 1, 1) := by decide +kernel
theorem dX5_readFactor_55 : decode cX5_readFactor 55 = .ok (.iconst 1, 1) := by decide +kernel
theorem dX5_readFactor_56 : decode cX5_readFactor 56 = .ok (.iadd, 1) := by decide +kernel
theorem dX5_readFactor_57 : decode cX5_readFactor 57 = .ok (.invokevirtual 57, 3) := by decide +kernel
theorem dX5_readFactor_60 : decode cX5_readFactor 60 = .ok (.iconst (-1), 1) := by decide +kernel
theorem dX5_readFactor_61 : decode cX5_readFactor 61 = .ok (.ixor, 1) := by decide +kernel
theorem dX5_readFactor_62 : decode cX5_readFactor 62 = .ok (.iconst 1, 1) := by decide +kernel
theorem dX5_readFactor_63 : decode cX5_readFactor 63 = .ok (.aload_n 0, 1) := by decide +kernel
theorem dX5_readFactor_64 : decode cX5_readFactor 64 = .ok (.getfield 15, 3) := by decide +kernel
theorem dX5_readFactor_67 : decode cX5_readFactor 67 = .ok (.getfield 52, 3) := by decide +kernel
theorem dX5_readFactor_70 : decode cX5_readFactor 70 = .ok (.ishl, 1) := by decide +kernel
theorem dX5_readFactor_71 : decode cX5_readFactor 71 = .ok (.iconst 1, 1) := by decide +kernel
theorem dX5_readFactor_72 : decode cX5_readFactor 72 = .ok (.isub, 1) := by decide +kernel
theorem dX5_readFactor_73 : decode cX5_readFactor 73 = .ok (.iand, 1) := by decide +kernel
theorem dX5_readFactor_74 : decode cX5_readFactor 74 = .ok (.ireturn, 1) := by decide +kernel
theorem dX5_readFactor_75 : decode cX5_readFactor 75 = .ok (.aload_n 0, 1) := by decide +kernel
theorem dX5_readFactor_76 : decode cX5_readFactor 76 = .ok (.iload_n 1, 1) := by decide +kernel
theorem dX5_readFactor_77 : decode cX5_readFactor 77 = .ok (.iconst 1, 1) := by decide +kernel
theorem dX5_readFactor_78 : decode cX5_readFactor 78 = .ok (.iadd, 1) := by decide +kernel
theorem dX5_readFactor_79 : decode cX5_readFactor 79 = .ok (.invokevirtual 36, 3) := by decide +kernel
theorem dX5_readFactor_82 : decode cX5_readFactor 82 = .ok (.istore_n 3, 1) := by decide +kernel
theorem dX5_readFactor_83 : decode cX5_readFactor 83 = .ok (.aload_n 0, 1) := by decide +kernel
theorem dX5_readFactor_84 : decode cX5_readFactor 84 = .ok (.getfield 9, 3) := by decide +kernel
theorem dX5_readFactor_87 : decode cX5_readFactor 87 = .ok (.bipush 41, 2) := by decide +kernel
theorem dX5_readFactor_89 : decode cX5_readFactor 89 = .ok (.invokevirtual 77, 3) := by decide +kernel
theorem dX5_readFactor_92 : decode cX5_readFactor 92 = .ok (.iload_n 3, 1) := by decide +kernel
theorem dX5_readFactor_93 : decode cX5_readFactor 93 = .ok (.ireturn, 1) := by decide +kernel
theorem dX5_readFactor_94 : decode cX5_readFactor 94 = .ok (.aload_n 0, 1) := by decide +kernel
theorem dX5_readFactor_95 : decode cX5_readFactor 95 = .ok (.invokevirtual 80, 3) := by decide +kernel
theorem dX5_readFactor_98 : decode cX5_readFactor 98 = .ok (.istore_n 3, 1) := by decide +kernel
theorem dX5_readFactor_99 : decode cX5_readFactor 99 = .ok (.aload_n 0, 1) := by decide +kernel
theorem dX5_readFactor_100 : decode cX5_readFactor 100 = .ok (.invokevirtual 84, 3) := by decide +kernel
theorem dX5_readFactor_103 : decode cX5_readFactor 103 = .ok (.istore 4, 2) := by decide +kernel
theorem dX5_readFactor_105 : decode cX5_readFactor 105 = .ok (.aload_n 0, 1) := by decide +kernel
theorem dX5_readFactor_106 : decode cX5_readFactor 106 = .ok (.invokevirtual 80, 3) := by decide +kernel
theorem dX5_readFactor_109 : decode cX5_readFactor 109 = .ok (.istore 5, 2) := by decide +kernel
theorem dX5_readFactor_111 : decode cX5_readFactor 111 = .ok (.aload_n 0, 1) := by decide +kernel
theorem dX5_readFactor_112 : decode cX5_readFactor 112 = .ok (.iload_n 3, 1) := by decide +kernel
theorem dX5_readFactor_113 : decode cX5_readFactor 113 = .ok (.iload 4, 2) := by decide +kernel
theorem dX5_readFactor_115 : decode cX5_readFactor 115 = .ok (.iload 5, 2) := by decide +kernel
theorem dX5_readFactor_117 : decode cX5_readFactor 117 = .ok (.invokevirtual 87, 3) := by decide +kernel
theorem dX5_readFactor_120 : decode cX5_readFactor 120 = .ok (.ireturn, 1) := by decide +kernel
theorem dX5_takeOperand_0 : decode cX5_takeOperand 0 = .ok (.bipush (-100), 2) := by decide +kernel
theorem dX5_takeOperand_2 : decode cX5_takeOperand 2 = .ok (.istore_n 1, 1) := by decide +kernel
theorem dX5_takeOperand_3 : decode cX5_takeOperand 3 = .ok (.aload_n 0, 1) := by decide +kernel
theorem dX5_takeOperand_4 : decode cX5_takeOperand 4 = .ok (.getfield 9, 3) := by decide +kernel
theorem dX5_takeOperand_7 : decode cX5_takeOperand 7 = .ok (.ldc 91, 2) := by decide +kernel
theorem dX5_takeOperand_9 : decode cX5_takeOperand 9 = .ok (.invokevirtual 21, 3) := by decide +kernel
theorem dX5_takeOperand_12 : decode cX5_takeOperand 12 = .ok (.ifCond .eq 9, 3) := by decide +kernel
theorem dX5_takeOperand_15 : decode cX5_takeOperand 15 = .ok (.bipush (-89), 2) := by decide +kernel
theorem dX5_takeOperand_17 : decode cX5_takeOperand 17 = .ok (.istore_n 1, 1) := by decide +kernel
theorem dX5_takeOperand_18 : decode cX5_takeOperand 18 = .ok (.goto 171, 3) := by decide +kernel
theorem dX5_takeOperand_21 : decode cX5_takeOperand 21 = .ok (.aload_n 0, 1) := by decide +kernel
theorem dX5_takeOperand_22 : decode cX5_takeOperand 22 = .ok (.getfield 9, 3) := by decide +kernel
theorem dX5_takeOperand_25 : decode cX5_takeOperand 25 = .ok (.ldc 93, 2) := by decide +kernel
theorem dX5_takeOperand_27 : decode cX5_takeOperand 27 = .ok (.invokevirtual 21, 3) := by decide +kernel
theorem dX5_takeOperand_30 : decode cX5_takeOperand 30 = .ok (.ifCond .eq 9, 3) := by decide +kernel
theorem dX5_takeOperand_33 : decode cX5_takeOperand 33 = .ok (.bipush (-99), 2) := by decide +kernel
theorem dX5_takeOperand_35 : decode cX5_takeOperand 35 = .ok (.istore_n 1, 1) := by decide +kernel
theorem dX5_takeOperand_36 : decode cX5_takeOperand 36 = .ok (.goto 153, 3) := by decide +kernel
theorem dX5_takeOperand_39 : decode cX5_takeOperand 39 = .ok (.aload_n 0, 1) := by decide +kernel
theorem dX5_takeOperand_40 : decode cX5_takeOperand 40 = .ok (.getfield 9, 3) := by decide +kernel
theorem dX5_takeOperand_43 : decode cX5_takeOperand 43 = .ok (.ldc 95, 2) := by decide +kernel
theorem dX5_takeOperand_45 : decode cX5_takeOperand 45 = .ok (.invokevirtual 21, 3) := by decide +kernel
theorem dX5_takeOperand_48 : decode cX5_takeOperand 48 = .ok (.ifCond .eq 9, 3) := by decide +kernel
theorem dX5_takeOperand_51 : decode cX5_takeOperand 51 = .ok (.bipush (-98), 2) := by decide +kernel
theorem dX5_takeOperand_53 : decode cX5_takeOperand 53 = .ok (.istore_n 1, 1) := by decide +kernel
theorem dX5_takeOperand_54 : decode cX5_takeOperand 54 = .ok (.goto 135, 3) := by decide +kernel
theorem dX5_takeOperand_57 : decode cX5_takeOperand 57 = .ok (.aload_n 0, 1) := by decide +kernel
theorem dX5_takeOperand_58 : decode cX5_takeOperand 58 = .ok (.getfield 9, 3) := by decide +kernel
theorem dX5_takeOperand_61 : decode cX5_takeOperand 61 = .ok (.ldc 97, 2) := by decide +kernel
theorem dX5_takeOperand_63 : decode cX5_takeOperand 63 = .ok (.invokevirtual 21, 3) := by decide +kernel
theorem dX5_takeOperand_66 : decode cX5_takeOperand 66 = .ok (.ifCond .eq 9, 3) := by decide +kernel
theorem dX5_takeOperand_69 : decode cX5_takeOperand 69 = .ok (.bipush (-97), 2) := by decide +kernel
theorem dX5_takeOperand_71 : decode cX5_takeOperand 71 = .ok (.istore_n 1, 1) := by decide +kernel
theorem dX5_takeOperand_72 : decode cX5_takeOperand 72 = .ok (.goto 117, 3) := by decide +kernel
theorem dX5_takeOperand_75 : decode cX5_takeOperand 75 = .ok (.aload_n 0, 1) := by decide +kernel
theorem dX5_takeOperand_76 : decode cX5_takeOperand 76 = .ok (.getfield 9, 3) := by decide +kernel
theorem dX5_takeOperand_79 : decode cX5_takeOperand 79 = .ok (.ldc 99, 2) := by decide +kernel
theorem dX5_takeOperand_81 : decode cX5_takeOperand 81 = .ok (.invokevirtual 21, 3) := by decide +kernel
theorem dX5_takeOperand_84 : decode cX5_takeOperand 84 = .ok (.ifCond .eq 9, 3) := by decide +kernel
theorem dX5_takeOperand_87 : decode cX5_takeOperand 87 = .ok (.bipush (-96), 2) := by decide +kernel
theorem dX5_takeOperand_89 : decode cX5_takeOperand 89 = .ok (.istore_n 1, 1) := by decide +kernel
theorem dX5_takeOperand_90 : decode cX5_takeOperand 90 = .ok (.goto 99, 3) := by decide +kernel
theorem dX5_takeOperand_93 : decode cX5_takeOperand 93 = .ok (.aload_n 0, 1) := by decide +kernel
theorem dX5_takeOperand_94 : decode cX5_takeOperand 94 = .ok (.getfield 9, 3) := by decide +kernel
theorem dX5_takeOperand_97 : decode cX5_takeOperand 97 = .ok (.ldc 101, 2) := by decide +kernel
theorem dX5_takeOperand_99 : decode cX5_takeOperand 99 = .ok (.invokevirtual 21, 3) := by decide +kernel
theorem dX5_takeOperand_102 : decode cX5_takeOperand 102 = .ok (.ifCond .eq 9, 3) := by decide +kernel
theorem dX5_takeOperand_105 : decode cX5_takeOperand 105 = .ok (.bipush (-93), 2) := by decide +kernel
theorem dX5_takeOperand_107 : decode cX5_takeOperand 107 = .ok (.istore_n 1, 1) := by decide +kernel
theorem dX5_takeOperand_108 : decode cX5_takeOperand 108 = .ok (.goto 81, 3) := by decide +kernel
theorem dX5_takeOperand_111 : decode cX5_takeOperand 111 = .ok (.aload_n 0, 1) := by decide +kernel
theorem dX5_takeOperand_112 : decode cX5_takeOperand 112 = .ok (.getfield 9, 3) := by decide +kernel
theorem dX5_takeOperand_115 : decode cX5_takeOperand 115 = .ok (.ldc 103, 2) := by decide +kernel
theorem dX5_takeOperand_117 : decode cX5_takeOperand 117 = .ok (.invokevirtual 21, 3) := by decide +kernel
theorem dX5_takeOperand_120 : decode cX5_takeOperand 120 = .ok (.ifCond .eq 9, 3) := by decide +kernel
theorem dX5_takeOperand_123 : decode cX5_takeOperand 123 = .ok (.bipush (-88), 2) := by decide +kernel
theorem dX5_takeOperand_125 : decode cX5_takeOperand 125 = .ok (.istore_n 1, 1) := by decide +kernel
theorem dX5_takeOperand_126 : decode cX5_takeOperand 126 = .ok (.goto 63, 3) := by decide +kernel
theorem dX5_takeOperand_129 : decode cX5_takeOperand 129 = .ok (.aload_n 0, 1) := by decide +kernel
theorem dX5_takeOperand_130 : decode cX5_takeOperand 130 = .ok (.getfield 9, 3) := by decide +kernel
theorem dX5_takeOperand_133 : decode cX5_takeOperand 133 = .ok (.ldc 105, 2) := by decide +kernel
theorem dX5_takeOperand_135 : decode cX5_takeOperand 135 = .ok (.invokevirtual 21, 3) := by decide +kernel
theorem dX5_takeOperand_138 : decode cX5_takeOperand 138 = .ok (.ifCond .eq 9, 3) := by decide +kernel
theorem dX5_takeOperand_141 : decode cX5_takeOperand 141 = .ok (.bipush (-91), 2) := by decide +kernel
theorem dX5_takeOperand_143 : decode cX5_takeOperand 143 = .ok (.istore_n 1, 1) := by decide +kernel
theorem dX5_takeOperand_144 : decode cX5_takeOperand 144 = .ok (.goto 45, 3) := by decide +kernel
theorem dX5_takeOperand_147 : decode cX5_takeOperand 147 = .ok (.aload_n 0, 1) := by decide +kernel
theorem dX5_takeOperand_148 : decode cX5_takeOperand 148 = .ok (.getfield 9, 3) := by decide +kernel
theorem dX5_takeOperand_151 : decode cX5_takeOperand 151 = .ok (.ldc 107, 2) := by decide +kernel
theorem dX5_takeOperand_153 : decode cX5_takeOperand 153 = .ok (.invokevirtual 21, 3) := by decide +kernel
theorem dX5_takeOperand_156 : decode cX5_takeOperand 156 = .ok (.ifCond .eq 9, 3) := by decide +kernel
theorem dX5_takeOperand_159 : decode cX5_takeOperand 159 = .ok (.bipush (-90), 2) := by decide +kernel
theorem dX5_takeOperand_161 : decode cX5_takeOperand 161 = .ok (.istore_n 1, 1) := by decide +kernel
theorem dX5_takeOperand_162 : decode cX5_takeOperand 162 = .ok (.goto 27, 3) := by decide +kernel
theorem dX5_takeOperand_165 : decode cX5_takeOperand 165 = .ok (.aload_n 0, 1) := by decide +kernel
theorem dX5_takeOperand_166 : decode cX5_takeOperand 166 = .ok (.getfield 9, 3) := by decide +kernel
theorem dX5_takeOperand_169 : decode cX5_takeOperand 169 = .ok (.ldc 109, 2) := by decide +kernel
theorem dX5_takeOperand_171 : decode cX5_takeOperand 171 = .ok (.invokevirtual 21, 3) := by decide +kernel
theorem dX5_takeOperand_174 : decode cX5_takeOperand 174 = .ok (.ifCond .ne 15, 3) := by decide +kernel
theorem dX5_takeOperand_177 : decode cX5_takeOperand 177 = .ok (.aload_n 0, 1) := by decide +kernel
theorem dX5_takeOperand_178 : decode cX5_takeOperand 178 = .ok (.getfield 9, 3) := by decide +kernel
theorem dX5_takeOperand_181 : decode cX5_takeOperand 181 = .ok (.iconst 0, 1) := by decide +kernel
theorem dX5_takeOperand_182 : decode cX5_takeOperand 182 = .ok (.sipush 9999, 3) := by decide +kernel
theorem dX5_takeOperand_185 : decode cX5_takeOperand 185 = .ok (.invokevirtual 111, 3) := by decide +kernel
theorem dX5_takeOperand_188 : decode cX5_takeOperand 188 = .ok (.istore_n 1, 1) := by decide +kernel
theorem dX5_takeOperand_189 : decode cX5_takeOperand 189 = .ok (.aload_n 0, 1) := by decide +kernel
theorem dX5_takeOperand_190 : decode cX5_takeOperand 190 = .ok (.getfield 9, 3) := by decide +kernel
theorem dX5_takeOperand_193 : decode cX5_takeOperand 193 = .ok (.invokevirtual 33, 3) := by decide +kernel
theorem dX5_takeOperand_196 : decode cX5_takeOperand 196 = .ok (.iload_n 1, 1) := by decide +kernel
theorem dX5_takeOperand_197 : decode cX5_takeOperand 197 = .ok (.ireturn, 1) := by decide +kernel
theorem dX5_takeComparison_0 : decode cX5_takeComparison 0 = .ok (.aload_n 0, 1) := by decide +kernel
theorem dX5_takeComparison_1 : decode cX5_takeComparison 1 = .ok (.getfield 9, 3) := by decide +kernel
theorem dX5_takeComparison_4 : decode cX5_takeComparison 4 = .ok (.getfield 115, 3) := by decide +kernel
theorem dX5_takeComparison_7 : decode cX5_takeComparison 7 = .ok (.istore_n 1, 1) := by decide +kernel
theorem dX5_takeComparison_8 : decode cX5_takeComparison 8 = .ok (.aload_n 0, 1) := by decide +kernel
theorem dX5_takeComparison_9 : decode cX5_takeComparison 9 = .ok (.getfield 9, 3) := by decide +kernel
theorem dX5_takeComparison_12 : decode cX5_takeComparison 12 = .ok (.bipush 60, 2) := by decide +kernel
theorem dX5_takeComparison_14 : decode cX5_takeComparison 14 = .ok (.invokevirtual 73, 3) := by decide +kernel
theorem dX5_takeComparison_17 : decode cX5_takeComparison 17 = .ok (.ifCond .ne 35, 3) := by decide +kernel
theorem dX5_takeComparison_20 : decode cX5_takeComparison 20 = .ok (.aload_n 0, 1) := by decide +kernel
theorem dX5_takeComparison_21 : decode cX5_takeComparison 21 = .ok (.getfield 9, 3) := by decide +kernel
theorem dX5_takeComparison_24 : decode cX5_takeComparison 24 = .ok (.bipush 61, 2) := by decide +kernel
theorem dX5_takeComparison_26 : decode cX5_takeComparison 26 = .ok (.invokevirtual 73, 3) := by decide +kernel
theorem dX5_takeComparison_29 : decode cX5_takeComparison 29 = .ok (.ifCond .ne 23, 3) := by decide +kernel
theorem dX5_takeComparison_32 : decode cX5_takeComparison 32 = .ok (.aload_n 0, 1) := by decide +kernel
theorem dX5_takeComparison_33 : decode cX5_takeComparison 33 = .ok (.getfield 9, 3) := by decide +kernel
theorem dX5_takeComparison_36 : decode cX5_takeComparison 36 = .ok (.bipush 62, 2) := by decide +kernel
theorem dX5_takeComparison_38 : decode cX5_takeComparison 38 = .ok (.invokevirtual 73, 3) := by decide +kernel
theorem dX5_takeComparison_41 : decode cX5_takeComparison 41 = .ok (.ifCond .ne 11, 3) := by decide +kernel
theorem dX5_takeComparison_44 : decode cX5_takeComparison 44 = .ok (.aload_n 0, 1) := by decide +kernel
theorem dX5_takeComparison_45 : decode cX5_takeComparison 45 = .ok (.getfield 9, 3) := by decide +kernel
theorem dX5_takeComparison_48 : decode cX5_takeComparison 48 = .ok (.iconst 1, 1) := by decide +kernel
theorem dX5_takeComparison_49 : decode cX5_takeComparison 49 = .ok (.invokevirtual 29, 3) := by decide +kernel
theorem dX5_takeComparison_52 : decode cX5_takeComparison 52 = .ok (.aload_n 0, 1) := by decide +kernel
theorem dX5_takeComparison_53 : decode cX5_takeComparison 53 = .ok (.getfield 9, 3) := by decide +kernel
theorem dX5_takeComparison_56 : decode cX5_takeComparison 56 = .ok (.invokevirtual 33, 3) := by decide +kernel
theorem dX5_takeComparison_59 : decode cX5_takeComparison 59 = .ok (.iload_n 1, 1) := by decide +kernel
theorem dX5_takeComparison_60 : decode cX5_takeComparison 60 = .ok (.ireturn, 1) := by decide +kernel
theorem dX5_compare_0 : decode cX5_compare 0 = .ok (.iconst 0, 1) := by decide +kernel
theorem dX5_compare_1 : decode cX5_compare 1 = .ok (.istore 4, 2) := by decide +kernel
theorem dX5_compare_3 : decode cX5_compare 3 = .ok (.iconst 0, 1) := by decide +kernel
theorem dX5_compare_4 : decode cX5_compare 4 = .ok (.istore 5, 2) := by decide +kernel
theorem dX5_compare_6 : decode cX5_compare 6 = .ok (.iload 5, 2) := by decide +kernel
theorem dX5_compare_8 : decode cX5_compare 8 = .ok (.aload_n 0, 1) := by decide +kernel
theorem dX5_compare_9 : decode cX5_compare 9 = .ok (.getfield 15, 3) := by decide +kernel
theorem dX5_compare_12 : decode cX5_compare 12 = .ok (.getfield 52, 3) := by decide +kernel
theorem dX5_compare_15 : decode cX5_compare 15 = .ok (.if_icmp .ge 68, 3) := by decide +kernel
theorem dX5_compare_18 : decode cX5_compare 18 = .ok (.aload_n 0, 1) := by decide +kernel
theorem dX5_compare_19 : decode cX5_compare 19 = .ok (.iload_n 1, 1) := by decide +kernel
theorem dX5_compare_20 : decode cX5_compare 20 = .ok (.iload 5, 2) := by decide +kernel
theorem dX5_compare_22 : decode cX5_compare 22 = .ok (.invokevirtual 118, 3) := by decide +kernel
theorem dX5_compare_25 : decode cX5_compare 25 = .ok (.aload_n 0, 1) := by decide +kernel
theorem dX5_compare_26 : decode cX5_compare 26 = .ok (.iload_n 3, 1) := by decide +kernel
theorem dX5_compare_27 : decode cX5_compare 27 = .ok (.iload 5, 2) := by decide +kernel
theorem dX5_compare_29 : decode cX5_compare 29 = .ok (.invokevirtual 118, 3) := by decide +kernel
theorem dX5_compare_32 : decode cX5_compare 32 = .ok (.isub, 1) := by decide +kernel
theorem dX5_compare_33 : decode cX5_compare 33 = .ok (.istore 6, 2) := by decide +kernel
theorem dX5_compare_35 : decode cX5_compare 35 = .ok (.iload_n 2, 1) := by decide +kernel
theorem dX5_compare_36 : decode cX5_compare 36 = .ok (.bipush 60, 2) := by decide +kernel
theorem dX5_compare_38 : decode cX5_compare 38 = .ok (.if_icmp .ne 11, 3) := by decide +kernel
theorem dX5_compare_41 : decode cX5_compare 41 = .ok (.iload 6, 2) := by decide +kernel
theorem dX5_compare_43 : decode cX5_compare 43 = .ok (.ifCond .ge 34, 3) := by decide +kernel
theorem dX5_compare_46 : decode cX5_compare 46 = .ok (.goto 22, 3) := by decide +kernel
theorem dX5_compare_49 : decode cX5_compare 49 = .ok (.iload_n 2, 1) := by decide +kernel
theorem dX5_compare_50 : decode cX5_compare 50 = .ok (.bipush 62, 2) := by decide +kernel
theorem dX5_compare_52 : decode cX5_compare 52 = .ok (.if_icmp .ne 11, 3) := by decide +kernel
theorem dX5_compare_55 : decode cX5_compare 55 = .ok (.iload 6, 2) := by decide +kernel
theorem dX5_compare_57 : decode cX5_compare 57 = .ok (.ifCond .le 20, 3) := by decide +kernel
theorem dX5_compare_60 : decode cX5_compare 60 = .ok (.goto 8, 3) := by decide +kernel
theorem dX5_compare_63 : decode cX5_compare 63 = .ok (.iload 6, 2) := by decide +kernel
theorem dX5_compare_65 : decode cX5_compare 65 = .ok (.ifCond .ne 12, 3) := by decide +kernel
theorem dX5_compare_68 : decode cX5_compare 68 = .ok (.iload 4, 2) := by decide +kernel
theorem dX5_compare_70 : decode cX5_compare 70 = .ok (.iconst 1, 1) := by decide +kernel
theorem dX5_compare_71 : decode cX5_compare 71 = .ok (.iload 5, 2) := by decide +kernel
theorem dX5_compare_73 : decode cX5_compare 73 = .ok (.ishl, 1) := by decide +kernel
theorem dX5_compare_74 : decode cX5_compare 74 = .ok (.ior, 1) := by decide +kernel
theorem dX5_compare_75 : decode cX5_compare 75 = .ok (.istore 4, 2) := by decide +kernel
theorem dX5_compare_77 : decode cX5_compare 77 = .ok (.iinc 5 1, 3) := by decide +kernel
theorem dX5_compare_80 : decode cX5_compare 80 = .ok (.goto (-74), 3) := by decide +kernel
theorem dX5_compare_83 : decode cX5_compare 83 = .ok (.iload 4, 2) := by decide +kernel
theorem dX5_compare_85 : decode cX5_compare 85 = .ok (.ireturn, 1) := by decide +kernel
theorem dX5_operandOf_0 : decode cX5_operandOf 0 = .ok (.iload_n 1, 1) := by decide +kernel
theorem dX5_operandOf_1 : decode cX5_operandOf 1 = .ok (.ifCond .lt 5, 3) := by decide +kernel
theorem dX5_operandOf_4 : decode cX5_operandOf 4 = .ok (.iload_n 1, 1) := by decide +kernel
theorem dX5_operandOf_5 : decode cX5_operandOf 5 = .ok (.ireturn, 1) := by decide +kernel
theorem dX5_operandOf_6 : decode cX5_operandOf 6 = .ok (.iload_n 1, 1) := by decide +kernel
theorem dX5_operandOf_7 : decode cX5_operandOf 7 = .ok (.bipush (-100), 2) := by decide +kernel
theorem dX5_operandOf_9 : decode cX5_operandOf 9 = .ok (.isub, 1) := by decide +kernel
theorem dX5_operandOf_10 : decode cX5_operandOf 10 = .ok (.istore_n 3, 1) := by decide +kernel
theorem dX5_operandOf_11 : decode cX5_operandOf 11 = .ok (.iload_n 3, 1) := by decide +kernel
theorem dX5_operandOf_12 : decode cX5_operandOf 12 = .ok (.bipush 11, 2) := by decide +kernel
theorem dX5_operandOf_14 : decode cX5_operandOf 14 = .ok (.if_icmp .ne 5, 3) := by decide +kernel
theorem dX5_operandOf_17 : decode cX5_operandOf 17 = .ok (.iload_n 2, 1) := by decide +kernel
theorem dX5_operandOf_18 : decode cX5_operandOf 18 = .ok (.ireturn, 1) := by decide +kernel
theorem dX5_operandOf_19 : decode cX5_operandOf 19 = .ok (.iload_n 3, 1) := by decide +kernel
theorem dX5_operandOf_20 : decode cX5_operandOf 20 = .ok (.bipush 12, 2) := by decide +kernel
theorem dX5_operandOf_22 : decode cX5_operandOf 22 = .ok (.if_icmp .ne 24, 3) := by decide +kernel
theorem dX5_operandOf_25 : decode cX5_operandOf 25 = .ok (.aload_n 0, 1) := by decide +kernel
theorem dX5_operandOf_26 : decode cX5_operandOf 26 = .ok (.getfield 15, 3) := by decide +kernel
theorem dX5_operandOf_29 : decode cX5_operandOf 29 = .ok (.getfield 121, 3) := by decide +kernel
theorem dX5_operandOf_32 : decode cX5_operandOf 32 = .ok (.aload_n 0, 1) := by decide +kernel
theorem dX5_operandOf_33 : decode cX5_operandOf 33 = .ok (.getfield 15, 3) := by decide +kernel
theorem dX5_operandOf_36 : decode cX5_operandOf 36 = .ok (.iload_n 2, 1) := by decide +kernel
theorem dX5_operandOf_37 : decode cX5_operandOf 37 = .ok (.invokevirtual 125, 3) := by decide +kernel
theorem dX5_operandOf_40 : decode cX5_operandOf 40 = .ok (.invokevirtual 128, 3) := by decide +kernel
theorem dX5_operandOf_43 : decode cX5_operandOf 43 = .ok (.goto 15, 3) := by decide +kernel
theorem dX5_operandOf_46 : decode cX5_operandOf 46 = .ok (.aload_n 0, 1) := by decide +kernel
theorem dX5_operandOf_47 : decode cX5_operandOf 47 = .ok (.getfield 15, 3) := by decide +kernel
theorem dX5_operandOf_50 : decode cX5_operandOf 50 = .ok (.getfield 133, 3) := by decide +kernel
theorem dX5_operandOf_53 : decode cX5_operandOf 53 = .ok (.iload_n 2, 1) := by decide +kernel
theorem dX5_operandOf_54 : decode cX5_operandOf 54 = .ok (.iload_n 3, 1) := by decide +kernel
theorem dX5_operandOf_55 : decode cX5_operandOf 55 = .ok (.invokevirtual 137, 3) := by decide +kernel
theorem dX5_operandOf_58 : decode cX5_operandOf 58 = .ok (.ireturn, 1) := by decide +kernel
theorem dX6_init_0 : decode cX6_init 0 = .ok (.aload_n 0, 1) := by decide +kernel
theorem dX6_init_1 : decode cX6_init 1 = .ok (.invokespecial 1, 3) := by decide +kernel
theorem dX6_init_4 : decode cX6_init 4 = .ok (.aload_n 0, 1) := by decide +kernel
theorem dX6_init_5 : decode cX6_init 5 = .ok (.iload_n 1, 1) := by decide +kernel
theorem dX6_init_6 : decode cX6_init 6 = .ok (.iconst 0, 1) := by decide +kernel
theorem dX6_init_7 : decode cX6_init 7 = .ok (.invokestatic 7, 3) := by decide +kernel
theorem dX6_init_10 : decode cX6_init 10 = .ok (.newarray .int, 2) := by decide +kernel
theorem dX6_init_12 : decode cX6_init 12 = .ok (.putfield 13, 3) := by decide +kernel
theorem dX6_init_15 : decode cX6_init 15 = .ok (.aload_n 0, 1) := by decide +kernel
theorem dX6_init_16 : decode cX6_init 16 = .ok (.iload_n 2, 1) := by decide +kernel
theorem dX6_init_17 : decode cX6_init 17 = .ok (.putfield 19, 3) := by decide +kernel
theorem dX6_init_20 : decode cX6_init 20 = .ok (.return_, 1) := by decide +kernel
theorem dX6_get_0 : decode cX6_get 0 = .ok (.iload_n 1, 1) := by decide +kernel
theorem dX6_get_1 : decode cX6_get 1 = .ok (.ifCond .lt 21, 3) := by decide +kernel
theorem dX6_get_4 : decode cX6_get 4 = .ok (.iload_n 1, 1) := by decide +kernel
theorem dX6_get_5 : decode cX6_get 5 = .ok (.aload_n 0, 1) := by decide +kernel
theorem dX6_get_6 : decode cX6_get 6 = .ok (.getfield 13, 3) := by decide +kernel
theorem dX6_get_9 : decode cX6_get 9 = .ok (.arraylength, 1) := by decide +kernel
theorem dX6_get_10 : decode cX6_get 10 = .ok (.if_icmp .ge 12, 3) := by decide +kernel
theorem dX6_get_13 : decode cX6_get 13 = .ok (.aload_n 0, 1) := by decide +kernel
theorem dX6_get_14 : decode cX6_get 14 = .ok (.getfield 13, 3) := by decide +kernel
theorem dX6_get_17 : decode cX6_get 17 = .ok (.iload_n 1, 1) := by decide +kernel
theorem dX6_get_18 : decode cX6_get 18 = .ok (.iaload, 1) := by decide +kernel
theorem dX6_get_19 : decode cX6_get 19 = .ok (.goto 7, 3) := by decide +kernel
theorem dX6_get_22 : decode cX6_get 22 = .ok (.aload_n 0, 1) := by decide +kernel
theorem dX6_get_23 : decode cX6_get 23 = .ok (.getfield 19, 3) := by decide +kernel
theorem dX6_get_26 : decode cX6_get 26 = .ok (.ireturn, 1) := by decide +kernel
theorem dX6_put_0 : decode cX6_put 0 = .ok (.iload_n 1, 1) := by decide +kernel
theorem dX6_put_1 : decode cX6_put 1 = .ok (.ifCond .lt 19, 3) := by decide +kernel
theorem dX6_put_4 : decode cX6_put 4 = .ok (.iload_n 1, 1) := by decide +kernel
theorem dX6_put_5 : decode cX6_put 5 = .ok (.aload_n 0, 1) := by decide +kernel
theorem dX6_put_6 : decode cX6_put 6 = .ok (.getfield 13, 3) := by decide +kernel
theorem dX6_put_9 : decode cX6_put 9 = .ok (.arraylength, 1) := by decide +kernel
theorem dX6_put_10 : decode cX6_put 10 = .ok (.if_icmp .ge 10, 3) := by decide +kernel
theorem dX6_put_13 : decode cX6_put 13 = .ok (.aload_n 0, 1) := by decide +kernel
theorem dX6_put_14 : decode cX6_put 14 = .ok (.getfield 13, 3) := by decide +kernel
theorem dX6_put_17 : decode cX6_put 17 = .ok (.iload_n 1, 1) := by decide +kernel
theorem dX6_put_18 : decode cX6_put 18 = .ok (.iload_n 2, 1) := by decide +kernel
theorem dX6_put_19 : decode cX6_put 19 = .ok (.iastore, 1) := by decide +kernel
theorem dX6_put_20 : decode cX6_put 20 = .ok (.return_, 1) := by decide +kernel
theorem dX6_fill_0 : decode cX6_fill 0 = .ok (.iconst 0, 1) := by decide +kernel
theorem dX6_fill_1 : decode cX6_fill 1 = .ok (.istore_n 2, 1) := by decide +kernel
theorem dX6_fill_2 : decode cX6_fill 2 = .ok (.iload_n 2, 1) := by decide +kernel
theorem dX6_fill_3 : decode cX6_fill 3 = .ok (.aload_n 0, 1) := by decide +kernel
theorem dX6_fill_4 : decode cX6_fill 4 = .ok (.getfield 13, 3) := by decide +kernel
theorem dX6_fill_7 : decode cX6_fill 7 = .ok (.arraylength, 1) := by decide +kernel
theorem dX6_fill_8 : decode cX6_fill 8 = .ok (.if_icmp .ge 16, 3) := by decide +kernel
theorem dX6_fill_11 : decode cX6_fill 11 = .ok (.aload_n 0, 1) := by decide +kernel
theorem dX6_fill_12 : decode cX6_fill 12 = .ok (.getfield 13, 3) := by decide +kernel
theorem dX6_fill_15 : decode cX6_fill 15 = .ok (.iload_n 2, 1) := by decide +kernel
theorem dX6_fill_16 : decode cX6_fill 16 = .ok (.iload_n 1, 1) := by decide +kernel
theorem dX6_fill_17 : decode cX6_fill 17 = .ok (.iastore, 1) := by decide +kernel
theorem dX6_fill_18 : decode cX6_fill 18 = .ok (.iinc 2 1, 3) := by decide +kernel
theorem dX6_fill_21 : decode cX6_fill 21 = .ok (.goto (-19), 3) := by decide +kernel
theorem dX6_fill_24 : decode cX6_fill 24 = .ok (.return_, 1) := by decide +kernel
theorem dX6_copyFrom_0 : decode cX6_copyFrom 0 = .ok (.aload_n 1, 1) := by decide +kernel
theorem dX6_copyFrom_1 : decode cX6_copyFrom 1 = .ok (.getfield 13, 3) := by decide +kernel
theorem dX6_copyFrom_4 : decode cX6_copyFrom 4 = .ok (.iconst 0, 1) := by decide +kernel
theorem dX6_copyFrom_5 : decode cX6_copyFrom 5 = .ok (.aload_n 0, 1) := by decide +kernel
theorem dX6_copyFrom_6 : decode cX6_copyFrom 6 = .ok (.getfield 13, 3) := by decide +kernel
theorem dX6_copyFrom_9 : decode cX6_copyFrom 9 = .ok (.iconst 0, 1) := by decide +kernel
theorem dX6_copyFrom_10 : decode cX6_copyFrom 10 = .ok (.aload_n 1, 1) := by decide +kernel
theorem dX6_copyFrom_11 : decode cX6_copyFrom 11 = .ok (.getfield 13, 3) := by decide +kernel
theorem dX6_copyFrom_14 : decode cX6_copyFrom 14 = .ok (.arraylength, 1) := by decide +kernel
theorem dX6_copyFrom_15 : decode cX6_copyFrom 15 = .ok (.aload_n 0, 1) := by decide +kernel
theorem dX6_copyFrom_16 : decode cX6_copyFrom 16 = .ok (.getfield 13, 3) := by decide +kernel
theorem dX6_copyFrom_19 : decode cX6_copyFrom 19 = .ok (.arraylength, 1) := by decide +kernel
theorem dX6_copyFrom_20 : decode cX6_copyFrom 20 = .ok (.invokestatic 23, 3) := by decide +kernel
theorem dX6_copyFrom_23 : decode cX6_copyFrom 23 = .ok (.invokestatic 26, 3) := by decide +kernel
theorem dX6_copyFrom_26 : decode cX6_copyFrom 26 = .ok (.return_, 1) := by decide +kernel
end
