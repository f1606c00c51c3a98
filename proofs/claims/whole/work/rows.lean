section
-- ===== PART A: goes FIRST, ahead of the names: the tables' words, and 'selects' of the private methods out of them =====
/-- a private method of a class that the tables say can be made, by its rows of tables_1 -/
def lw_okq (q : MethodName × Nat) : Prop := (q.1.cls ≠ "java/lang/invoke/MethodHandle" ∧ q.1.cls ≠ "java/lang/invoke/VarHandle") ∧ Cond.instantiable q.1.cls q.2 ∈ tables_1 ∧ Cond.privateMethod q.1 ∈ tables_1 ∧ Cond.instanceMethod q.1 ∈ tables_1
theorem lw_p0 : lw_okq (⟨"FlightReader$Recording", "constantFor", "(LFlightReader$Chunk;I)I"⟩, 7) := ⟨⟨by decide +kernel, by decide +kernel⟩, List.mem_of_getElem? (i := 107) (by decide +kernel), List.mem_of_getElem? (i := 433) (by decide +kernel), List.mem_of_getElem? (i := 434) (by decide +kernel)⟩
theorem lw_p1 : lw_okq (⟨"FlightReader$Recording", "isKey", "(I)Z"⟩, 7) := ⟨⟨by decide +kernel, by decide +kernel⟩, List.mem_of_getElem? (i := 107) (by decide +kernel), List.mem_of_getElem? (i := 437) (by decide +kernel), List.mem_of_getElem? (i := 438) (by decide +kernel)⟩
theorem lw_p2 : lw_okq (⟨"java/lang/Throwable", "fillInStackTrace", "(I)Ljava/lang/Throwable;"⟩, 6) := ⟨⟨by decide +kernel, by decide +kernel⟩, List.mem_of_getElem? (i := 529) (by decide +kernel), List.mem_of_getElem? (i := 527) (by decide +kernel), List.mem_of_getElem? (i := 528) (by decide +kernel)⟩
theorem lw_p3 : lw_okq (⟨"FlightReader$Type", "readField", "(LFlightReader$Source;)V"⟩, 7) := ⟨⟨by decide +kernel, by decide +kernel⟩, List.mem_of_getElem? (i := 158) (by decide +kernel), List.mem_of_getElem? (i := 607) (by decide +kernel), List.mem_of_getElem? (i := 608) (by decide +kernel)⟩
theorem lw_p4 : lw_okq (⟨"FlightReader$Chunk", "fieldsHaveTypes", "()Z"⟩, 10) := ⟨⟨by decide +kernel, by decide +kernel⟩, List.mem_of_getElem? (i := 151) (by decide +kernel), List.mem_of_getElem? (i := 616) (by decide +kernel), List.mem_of_getElem? (i := 617) (by decide +kernel)⟩
theorem lw_p5 : lw_okq (⟨"FlightReader$Chunk", "someHoldItself", "()Z"⟩, 10) := ⟨⟨by decide +kernel, by decide +kernel⟩, List.mem_of_getElem? (i := 151) (by decide +kernel), List.mem_of_getElem? (i := 628) (by decide +kernel), List.mem_of_getElem? (i := 629) (by decide +kernel)⟩
theorem lw_p6 : lw_okq (⟨"FlightReader$Chunk", "holdsOnly", "(LFlightReader$Type;I)Z"⟩, 10) := ⟨⟨by decide +kernel, by decide +kernel⟩, List.mem_of_getElem? (i := 151) (by decide +kernel), List.mem_of_getElem? (i := 632) (by decide +kernel), List.mem_of_getElem? (i := 633) (by decide +kernel)⟩
theorem lw_p7 : lw_okq (⟨"FlightReader$Values", "read", "(LFlightReader$Source;LFlightReader$Chunk;III)I"⟩, 7) := ⟨⟨by decide +kernel, by decide +kernel⟩, List.mem_of_getElem? (i := 115) (by decide +kernel), List.mem_of_getElem? (i := 650) (by decide +kernel), List.mem_of_getElem? (i := 651) (by decide +kernel)⟩
theorem lw_p8 : lw_okq (⟨"FlightReader$Values", "put", "(IIJI)V"⟩, 7) := ⟨⟨by decide +kernel, by decide +kernel⟩, List.mem_of_getElem? (i := 115) (by decide +kernel), List.mem_of_getElem? (i := 656) (by decide +kernel), List.mem_of_getElem? (i := 657) (by decide +kernel)⟩
theorem lw_p9 : lw_okq (⟨"FlightReader$Values", "readText", "(LFlightReader$Source;I)V"⟩, 7) := ⟨⟨by decide +kernel, by decide +kernel⟩, List.mem_of_getElem? (i := 115) (by decide +kernel), List.mem_of_getElem? (i := 662) (by decide +kernel), List.mem_of_getElem? (i := 663) (by decide +kernel)⟩
theorem lw_p10 : lw_okq (⟨"FlightReader$Values", "addLetter", "(C)V"⟩, 7) := ⟨⟨by decide +kernel, by decide +kernel⟩, List.mem_of_getElem? (i := 115) (by decide +kernel), List.mem_of_getElem? (i := 673) (by decide +kernel), List.mem_of_getElem? (i := 674) (by decide +kernel)⟩
theorem lw_p11 : lw_okq (⟨"FlightReader$Values", "readPlain", "(LFlightReader$Source;I)J"⟩, 7) := ⟨⟨by decide +kernel, by decide +kernel⟩, List.mem_of_getElem? (i := 115) (by decide +kernel), List.mem_of_getElem? (i := 678) (by decide +kernel), List.mem_of_getElem? (i := 679) (by decide +kernel)⟩
theorem lw_p12 : lw_okq (⟨"FlightReader$Recording", "readEvent", "(LFlightReader$Source;LFlightReader$Chunk;II)V"⟩, 7) := ⟨⟨by decide +kernel, by decide +kernel⟩, List.mem_of_getElem? (i := 107) (by decide +kernel), List.mem_of_getElem? (i := 685) (by decide +kernel), List.mem_of_getElem? (i := 686) (by decide +kernel)⟩
theorem lw_p13 : lw_okq (⟨"FlightReader$Checkpoints", "startingAt", "(I)I"⟩, 9) := ⟨⟨by decide +kernel, by decide +kernel⟩, List.mem_of_getElem? (i := 71) (by decide +kernel), List.mem_of_getElem? (i := 700) (by decide +kernel), List.mem_of_getElem? (i := 701) (by decide +kernel)⟩
theorem lw_p14 : lw_okq (⟨"FlightReader", "chooseAll", "()V"⟩, 10) := ⟨⟨by decide +kernel, by decide +kernel⟩, List.mem_of_getElem? (i := 20) (by decide +kernel), List.mem_of_getElem? (i := 708) (by decide +kernel), List.mem_of_getElem? (i := 709) (by decide +kernel)⟩
theorem lw_p15 : lw_okq (⟨"FlightReader", "requireEvent", "(I)V"⟩, 10) := ⟨⟨by decide +kernel, by decide +kernel⟩, List.mem_of_getElem? (i := 20) (by decide +kernel), List.mem_of_getElem? (i := 720) (by decide +kernel), List.mem_of_getElem? (i := 721) (by decide +kernel)⟩
def lw_privs_1 : List (MethodName × Nat) := [(⟨"FlightReader$Recording", "constantFor", "(LFlightReader$Chunk;I)I"⟩, 7), (⟨"FlightReader$Recording", "isKey", "(I)Z"⟩, 7), (⟨"java/lang/Throwable", "fillInStackTrace", "(I)Ljava/lang/Throwable;"⟩, 6), (⟨"FlightReader$Type", "readField", "(LFlightReader$Source;)V"⟩, 7), (⟨"FlightReader$Chunk", "fieldsHaveTypes", "()Z"⟩, 10), (⟨"FlightReader$Chunk", "someHoldItself", "()Z"⟩, 10), (⟨"FlightReader$Chunk", "holdsOnly", "(LFlightReader$Type;I)Z"⟩, 10), (⟨"FlightReader$Values", "read", "(LFlightReader$Source;LFlightReader$Chunk;III)I"⟩, 7), (⟨"FlightReader$Values", "put", "(IIJI)V"⟩, 7), (⟨"FlightReader$Values", "readText", "(LFlightReader$Source;I)V"⟩, 7), (⟨"FlightReader$Values", "addLetter", "(C)V"⟩, 7), (⟨"FlightReader$Values", "readPlain", "(LFlightReader$Source;I)J"⟩, 7), (⟨"FlightReader$Recording", "readEvent", "(LFlightReader$Source;LFlightReader$Chunk;II)V"⟩, 7), (⟨"FlightReader$Checkpoints", "startingAt", "(I)I"⟩, 9), (⟨"FlightReader", "chooseAll", "()V"⟩, 10), (⟨"FlightReader", "requireEvent", "(I)V"⟩, 10)]
theorem lw_r1 : ∀ q ∈ lw_privs_1, lw_okq q := List.forall_mem_cons.mpr ⟨lw_p0, List.forall_mem_cons.mpr ⟨lw_p1, List.forall_mem_cons.mpr ⟨lw_p2, List.forall_mem_cons.mpr ⟨lw_p3, List.forall_mem_cons.mpr ⟨lw_p4, List.forall_mem_cons.mpr ⟨lw_p5, List.forall_mem_cons.mpr ⟨lw_p6, List.forall_mem_cons.mpr ⟨lw_p7, List.forall_mem_cons.mpr ⟨lw_p8, List.forall_mem_cons.mpr ⟨lw_p9, List.forall_mem_cons.mpr ⟨lw_p10, List.forall_mem_cons.mpr ⟨lw_p11, List.forall_mem_cons.mpr ⟨lw_p12, List.forall_mem_cons.mpr ⟨lw_p13, List.forall_mem_cons.mpr ⟨lw_p14, List.forall_mem_cons.mpr ⟨lw_p15, fun _ h => absurd h List.not_mem_nil⟩⟩⟩⟩⟩⟩⟩⟩⟩⟩⟩⟩⟩⟩⟩⟩
theorem lw_p16 : lw_okq (⟨"FlightReader$Filter", "stateAfter", "(C)I"⟩, 12) := ⟨⟨by decide +kernel, by decide +kernel⟩, List.mem_of_getElem? (i := 262) (by decide +kernel), List.mem_of_getElem? (i := 800) (by decide +kernel), List.mem_of_getElem? (i := 801) (by decide +kernel)⟩
theorem lw_p17 : lw_okq (⟨"FlightReader$Filter", "takeName", "(C)I"⟩, 12) := ⟨⟨by decide +kernel, by decide +kernel⟩, List.mem_of_getElem? (i := 262) (by decide +kernel), List.mem_of_getElem? (i := 804) (by decide +kernel), List.mem_of_getElem? (i := 805) (by decide +kernel)⟩
theorem lw_p18 : lw_okq (⟨"FlightReader$Filter", "takeStep", "(C)I"⟩, 12) := ⟨⟨by decide +kernel, by decide +kernel⟩, List.mem_of_getElem? (i := 262) (by decide +kernel), List.mem_of_getElem? (i := 808) (by decide +kernel), List.mem_of_getElem? (i := 809) (by decide +kernel)⟩
theorem lw_p19 : lw_okq (⟨"FlightReader$Filter", "takeDot", "()I"⟩, 12) := ⟨⟨by decide +kernel, by decide +kernel⟩, List.mem_of_getElem? (i := 262) (by decide +kernel), List.mem_of_getElem? (i := 812) (by decide +kernel), List.mem_of_getElem? (i := 813) (by decide +kernel)⟩
theorem lw_p20 : lw_okq (⟨"FlightReader$Filter", "takeSign", "(C)I"⟩, 12) := ⟨⟨by decide +kernel, by decide +kernel⟩, List.mem_of_getElem? (i := 262) (by decide +kernel), List.mem_of_getElem? (i := 816) (by decide +kernel), List.mem_of_getElem? (i := 817) (by decide +kernel)⟩
theorem lw_p21 : lw_okq (⟨"FlightReader$Filter", "takeMinus", "()I"⟩, 12) := ⟨⟨by decide +kernel, by decide +kernel⟩, List.mem_of_getElem? (i := 262) (by decide +kernel), List.mem_of_getElem? (i := 820) (by decide +kernel), List.mem_of_getElem? (i := 821) (by decide +kernel)⟩
theorem lw_p22 : lw_okq (⟨"FlightReader$Filter", "takeDigit", "(C)I"⟩, 12) := ⟨⟨by decide +kernel, by decide +kernel⟩, List.mem_of_getElem? (i := 262) (by decide +kernel), List.mem_of_getElem? (i := 824) (by decide +kernel), List.mem_of_getElem? (i := 825) (by decide +kernel)⟩
theorem lw_p23 : lw_okq (⟨"FlightReader$Filter", "holds", "(CJJ)Z"⟩, 12) := ⟨⟨by decide +kernel, by decide +kernel⟩, List.mem_of_getElem? (i := 262) (by decide +kernel), List.mem_of_getElem? (i := 835) (by decide +kernel), List.mem_of_getElem? (i := 836) (by decide +kernel)⟩
theorem lw_p24 : lw_okq (⟨"FlightReader", "tallyChosen", "(I)V"⟩, 10) := ⟨⟨by decide +kernel, by decide +kernel⟩, List.mem_of_getElem? (i := 20) (by decide +kernel), List.mem_of_getElem? (i := 853) (by decide +kernel), List.mem_of_getElem? (i := 854) (by decide +kernel)⟩
theorem lw_p25 : lw_okq (⟨"FlightReaderModel", "chunk", "(I)I"⟩, 58) := ⟨⟨by decide +kernel, by decide +kernel⟩, List.mem_of_getElem? (i := 886) (by decide +kernel), List.mem_of_getElem? (i := 1079) (by decide +kernel), List.mem_of_getElem? (i := 1080) (by decide +kernel)⟩
theorem lw_p26 : lw_okq (⟨"FlightReaderModel", "wrong", "(II)V"⟩, 58) := ⟨⟨by decide +kernel, by decide +kernel⟩, List.mem_of_getElem? (i := 886) (by decide +kernel), List.mem_of_getElem? (i := 1083) (by decide +kernel), List.mem_of_getElem? (i := 1084) (by decide +kernel)⟩
theorem lw_p27 : lw_okq (⟨"FlightReaderModel", "header", "(I)V"⟩, 58) := ⟨⟨by decide +kernel, by decide +kernel⟩, List.mem_of_getElem? (i := 886) (by decide +kernel), List.mem_of_getElem? (i := 1087) (by decide +kernel), List.mem_of_getElem? (i := 1088) (by decide +kernel)⟩
theorem lw_p28 : lw_okq (⟨"FlightReaderModel", "get", "(I)I"⟩, 58) := ⟨⟨by decide +kernel, by decide +kernel⟩, List.mem_of_getElem? (i := 886) (by decide +kernel), List.mem_of_getElem? (i := 1091) (by decide +kernel), List.mem_of_getElem? (i := 1092) (by decide +kernel)⟩
theorem lw_p29 : lw_okq (⟨"FlightReaderModel", "two", "(I)I"⟩, 58) := ⟨⟨by decide +kernel, by decide +kernel⟩, List.mem_of_getElem? (i := 886) (by decide +kernel), List.mem_of_getElem? (i := 1095) (by decide +kernel), List.mem_of_getElem? (i := 1096) (by decide +kernel)⟩
theorem lw_p30 : lw_okq (⟨"FlightReaderModel", "four", "(I)J"⟩, 58) := ⟨⟨by decide +kernel, by decide +kernel⟩, List.mem_of_getElem? (i := 886) (by decide +kernel), List.mem_of_getElem? (i := 1099) (by decide +kernel), List.mem_of_getElem? (i := 1100) (by decide +kernel)⟩
theorem lw_p31 : lw_okq (⟨"FlightReaderModel", "metadata", "(II)V"⟩, 58) := ⟨⟨by decide +kernel, by decide +kernel⟩, List.mem_of_getElem? (i := 886) (by decide +kernel), List.mem_of_getElem? (i := 1103) (by decide +kernel), List.mem_of_getElem? (i := 1104) (by decide +kernel)⟩
def lw_privs_2 : List (MethodName × Nat) := [(⟨"FlightReader$Filter", "stateAfter", "(C)I"⟩, 12), (⟨"FlightReader$Filter", "takeName", "(C)I"⟩, 12), (⟨"FlightReader$Filter", "takeStep", "(C)I"⟩, 12), (⟨"FlightReader$Filter", "takeDot", "()I"⟩, 12), (⟨"FlightReader$Filter", "takeSign", "(C)I"⟩, 12), (⟨"FlightReader$Filter", "takeMinus", "()I"⟩, 12), (⟨"FlightReader$Filter", "takeDigit", "(C)I"⟩, 12), (⟨"FlightReader$Filter", "holds", "(CJJ)Z"⟩, 12), (⟨"FlightReader", "tallyChosen", "(I)V"⟩, 10), (⟨"FlightReaderModel", "chunk", "(I)I"⟩, 58), (⟨"FlightReaderModel", "wrong", "(II)V"⟩, 58), (⟨"FlightReaderModel", "header", "(I)V"⟩, 58), (⟨"FlightReaderModel", "get", "(I)I"⟩, 58), (⟨"FlightReaderModel", "two", "(I)I"⟩, 58), (⟨"FlightReaderModel", "four", "(I)J"⟩, 58), (⟨"FlightReaderModel", "metadata", "(II)V"⟩, 58)]
theorem lw_r2 : ∀ q ∈ lw_privs_2, lw_okq q := List.forall_mem_cons.mpr ⟨lw_p16, List.forall_mem_cons.mpr ⟨lw_p17, List.forall_mem_cons.mpr ⟨lw_p18, List.forall_mem_cons.mpr ⟨lw_p19, List.forall_mem_cons.mpr ⟨lw_p20, List.forall_mem_cons.mpr ⟨lw_p21, List.forall_mem_cons.mpr ⟨lw_p22, List.forall_mem_cons.mpr ⟨lw_p23, List.forall_mem_cons.mpr ⟨lw_p24, List.forall_mem_cons.mpr ⟨lw_p25, List.forall_mem_cons.mpr ⟨lw_p26, List.forall_mem_cons.mpr ⟨lw_p27, List.forall_mem_cons.mpr ⟨lw_p28, List.forall_mem_cons.mpr ⟨lw_p29, List.forall_mem_cons.mpr ⟨lw_p30, List.forall_mem_cons.mpr ⟨lw_p31, fun _ h => absurd h List.not_mem_nil⟩⟩⟩⟩⟩⟩⟩⟩⟩⟩⟩⟩⟩⟩⟩⟩
theorem lw_p32 : lw_okq (⟨"FlightReaderModel", "begins", "(II)I"⟩, 58) := ⟨⟨by decide +kernel, by decide +kernel⟩, List.mem_of_getElem? (i := 886) (by decide +kernel), List.mem_of_getElem? (i := 1107) (by decide +kernel), List.mem_of_getElem? (i := 1108) (by decide +kernel)⟩
theorem lw_p33 : lw_okq (⟨"FlightReaderModel", "small", "()I"⟩, 58) := ⟨⟨by decide +kernel, by decide +kernel⟩, List.mem_of_getElem? (i := 886) (by decide +kernel), List.mem_of_getElem? (i := 1111) (by decide +kernel), List.mem_of_getElem? (i := 1112) (by decide +kernel)⟩
theorem lw_p34 : lw_okq (⟨"FlightReaderModel", "compressed", "()J"⟩, 58) := ⟨⟨by decide +kernel, by decide +kernel⟩, List.mem_of_getElem? (i := 886) (by decide +kernel), List.mem_of_getElem? (i := 1115) (by decide +kernel), List.mem_of_getElem? (i := 1116) (by decide +kernel)⟩
theorem lw_p35 : lw_okq (⟨"FlightReaderModel", "typeTold", "()V"⟩, 58) := ⟨⟨by decide +kernel, by decide +kernel⟩, List.mem_of_getElem? (i := 886) (by decide +kernel), List.mem_of_getElem? (i := 1120) (by decide +kernel), List.mem_of_getElem? (i := 1121) (by decide +kernel)⟩
theorem lw_p36 : lw_okq (⟨"FlightReaderModel", "typeOf", "(JI)I"⟩, 58) := ⟨⟨by decide +kernel, by decide +kernel⟩, List.mem_of_getElem? (i := 886) (by decide +kernel), List.mem_of_getElem? (i := 1125) (by decide +kernel), List.mem_of_getElem? (i := 1126) (by decide +kernel)⟩
theorem lw_p37 : lw_okq (⟨"FlightReaderModel", "next", "()I"⟩, 58) := ⟨⟨by decide +kernel, by decide +kernel⟩, List.mem_of_getElem? (i := 886) (by decide +kernel), List.mem_of_getElem? (i := 1129) (by decide +kernel), List.mem_of_getElem? (i := 1130) (by decide +kernel)⟩
theorem lw_p38 : lw_okq (⟨"FlightReaderModel", "fieldTold", "(I)V"⟩, 58) := ⟨⟨by decide +kernel, by decide +kernel⟩, List.mem_of_getElem? (i := 886) (by decide +kernel), List.mem_of_getElem? (i := 1133) (by decide +kernel), List.mem_of_getElem? (i := 1134) (by decide +kernel)⟩
theorem lw_p39 : lw_okq (⟨"FlightReaderModel", "fieldOf", "(II)I"⟩, 58) := ⟨⟨by decide +kernel, by decide +kernel⟩, List.mem_of_getElem? (i := 886) (by decide +kernel), List.mem_of_getElem? (i := 1137) (by decide +kernel), List.mem_of_getElem? (i := 1138) (by decide +kernel)⟩
theorem lw_p40 : lw_okq (⟨"FlightReaderModel", "structures", "(I)V"⟩, 58) := ⟨⟨by decide +kernel, by decide +kernel⟩, List.mem_of_getElem? (i := 886) (by decide +kernel), List.mem_of_getElem? (i := 1141) (by decide +kernel), List.mem_of_getElem? (i := 1142) (by decide +kernel)⟩
theorem lw_p41 : lw_okq (⟨"FlightReaderModel", "held", "(I)Z"⟩, 58) := ⟨⟨by decide +kernel, by decide +kernel⟩, List.mem_of_getElem? (i := 886) (by decide +kernel), List.mem_of_getElem? (i := 1147) (by decide +kernel), List.mem_of_getElem? (i := 1148) (by decide +kernel)⟩
theorem lw_p42 : lw_okq (⟨"FlightReaderModel", "checkpoint", "(I)I"⟩, 58) := ⟨⟨by decide +kernel, by decide +kernel⟩, List.mem_of_getElem? (i := 886) (by decide +kernel), List.mem_of_getElem? (i := 1151) (by decide +kernel), List.mem_of_getElem? (i := 1152) (by decide +kernel)⟩
theorem lw_p43 : lw_okq (⟨"FlightReaderModel", "pass", "(JI)V"⟩, 58) := ⟨⟨by decide +kernel, by decide +kernel⟩, List.mem_of_getElem? (i := 886) (by decide +kernel), List.mem_of_getElem? (i := 1155) (by decide +kernel), List.mem_of_getElem? (i := 1156) (by decide +kernel)⟩
theorem lw_p44 : lw_okq (⟨"FlightReaderModel", "begin", "(JI)V"⟩, 58) := ⟨⟨by decide +kernel, by decide +kernel⟩, List.mem_of_getElem? (i := 886) (by decide +kernel), List.mem_of_getElem? (i := 1159) (by decide +kernel), List.mem_of_getElem? (i := 1160) (by decide +kernel)⟩
theorem lw_p45 : lw_okq (⟨"FlightReaderModel", "counted", "()V"⟩, 58) := ⟨⟨by decide +kernel, by decide +kernel⟩, List.mem_of_getElem? (i := 886) (by decide +kernel), List.mem_of_getElem? (i := 1163) (by decide +kernel), List.mem_of_getElem? (i := 1164) (by decide +kernel)⟩
theorem lw_p46 : lw_okq (⟨"FlightReaderModel", "push", "(IJI)V"⟩, 58) := ⟨⟨by decide +kernel, by decide +kernel⟩, List.mem_of_getElem? (i := 886) (by decide +kernel), List.mem_of_getElem? (i := 1167) (by decide +kernel), List.mem_of_getElem? (i := 1168) (by decide +kernel)⟩
theorem lw_p47 : lw_okq (⟨"FlightReaderModel", "plain", "(I)V"⟩, 58) := ⟨⟨by decide +kernel, by decide +kernel⟩, List.mem_of_getElem? (i := 886) (by decide +kernel), List.mem_of_getElem? (i := 1171) (by decide +kernel), List.mem_of_getElem? (i := 1172) (by decide +kernel)⟩
def lw_privs_3 : List (MethodName × Nat) := [(⟨"FlightReaderModel", "begins", "(II)I"⟩, 58), (⟨"FlightReaderModel", "small", "()I"⟩, 58), (⟨"FlightReaderModel", "compressed", "()J"⟩, 58), (⟨"FlightReaderModel", "typeTold", "()V"⟩, 58), (⟨"FlightReaderModel", "typeOf", "(JI)I"⟩, 58), (⟨"FlightReaderModel", "next", "()I"⟩, 58), (⟨"FlightReaderModel", "fieldTold", "(I)V"⟩, 58), (⟨"FlightReaderModel", "fieldOf", "(II)I"⟩, 58), (⟨"FlightReaderModel", "structures", "(I)V"⟩, 58), (⟨"FlightReaderModel", "held", "(I)Z"⟩, 58), (⟨"FlightReaderModel", "checkpoint", "(I)I"⟩, 58), (⟨"FlightReaderModel", "pass", "(JI)V"⟩, 58), (⟨"FlightReaderModel", "begin", "(JI)V"⟩, 58), (⟨"FlightReaderModel", "counted", "()V"⟩, 58), (⟨"FlightReaderModel", "push", "(IJI)V"⟩, 58), (⟨"FlightReaderModel", "plain", "(I)V"⟩, 58)]
theorem lw_r3 : ∀ q ∈ lw_privs_3, lw_okq q := List.forall_mem_cons.mpr ⟨lw_p32, List.forall_mem_cons.mpr ⟨lw_p33, List.forall_mem_cons.mpr ⟨lw_p34, List.forall_mem_cons.mpr ⟨lw_p35, List.forall_mem_cons.mpr ⟨lw_p36, List.forall_mem_cons.mpr ⟨lw_p37, List.forall_mem_cons.mpr ⟨lw_p38, List.forall_mem_cons.mpr ⟨lw_p39, List.forall_mem_cons.mpr ⟨lw_p40, List.forall_mem_cons.mpr ⟨lw_p41, List.forall_mem_cons.mpr ⟨lw_p42, List.forall_mem_cons.mpr ⟨lw_p43, List.forall_mem_cons.mpr ⟨lw_p44, List.forall_mem_cons.mpr ⟨lw_p45, List.forall_mem_cons.mpr ⟨lw_p46, List.forall_mem_cons.mpr ⟨lw_p47, fun _ h => absurd h List.not_mem_nil⟩⟩⟩⟩⟩⟩⟩⟩⟩⟩⟩⟩⟩⟩⟩⟩
theorem lw_p48 : lw_okq (⟨"FlightReaderModel", "text", "()V"⟩, 58) := ⟨⟨by decide +kernel, by decide +kernel⟩, List.mem_of_getElem? (i := 886) (by decide +kernel), List.mem_of_getElem? (i := 1175) (by decide +kernel), List.mem_of_getElem? (i := 1176) (by decide +kernel)⟩
theorem lw_p49 : lw_okq (⟨"FlightReaderModel", "character", "(I)I"⟩, 58) := ⟨⟨by decide +kernel, by decide +kernel⟩, List.mem_of_getElem? (i := 886) (by decide +kernel), List.mem_of_getElem? (i := 1179) (by decide +kernel), List.mem_of_getElem? (i := 1180) (by decide +kernel)⟩
theorem lw_p50 : lw_okq (⟨"FlightReaderModel", "finish", "()V"⟩, 58) := ⟨⟨by decide +kernel, by decide +kernel⟩, List.mem_of_getElem? (i := 886) (by decide +kernel), List.mem_of_getElem? (i := 1185) (by decide +kernel), List.mem_of_getElem? (i := 1186) (by decide +kernel)⟩
theorem lw_p51 : lw_okq (⟨"FlightReaderModel", "toldEvent", "(IJ)V"⟩, 58) := ⟨⟨by decide +kernel, by decide +kernel⟩, List.mem_of_getElem? (i := 886) (by decide +kernel), List.mem_of_getElem? (i := 1189) (by decide +kernel), List.mem_of_getElem? (i := 1190) (by decide +kernel)⟩
theorem lw_p52 : lw_okq (⟨"FlightReaderModel", "chain", "(II)V"⟩, 58) := ⟨⟨by decide +kernel, by decide +kernel⟩, List.mem_of_getElem? (i := 886) (by decide +kernel), List.mem_of_getElem? (i := 1193) (by decide +kernel), List.mem_of_getElem? (i := 1194) (by decide +kernel)⟩
theorem lw_p53 : lw_okq (⟨"FlightReaderModel", "isCheckpoint", "(III)Z"⟩, 58) := ⟨⟨by decide +kernel, by decide +kernel⟩, List.mem_of_getElem? (i := 886) (by decide +kernel), List.mem_of_getElem? (i := 1197) (by decide +kernel), List.mem_of_getElem? (i := 1198) (by decide +kernel)⟩
theorem lw_p54 : lw_okq (⟨"FlightReaderModel", "fails", "(I)I"⟩, 58) := ⟨⟨by decide +kernel, by decide +kernel⟩, List.mem_of_getElem? (i := 886) (by decide +kernel), List.mem_of_getElem? (i := 1201) (by decide +kernel), List.mem_of_getElem? (i := 1202) (by decide +kernel)⟩
theorem lw_p55 : lw_okq (⟨"FlightReaderModel", "isEvent", "(I)Z"⟩, 58) := ⟨⟨by decide +kernel, by decide +kernel⟩, List.mem_of_getElem? (i := 886) (by decide +kernel), List.mem_of_getElem? (i := 1217) (by decide +kernel), List.mem_of_getElem? (i := 1218) (by decide +kernel)⟩
theorem lw_p56 : lw_okq (⟨"FlightReaderModel", "go", "(I)V"⟩, 58) := ⟨⟨by decide +kernel, by decide +kernel⟩, List.mem_of_getElem? (i := 886) (by decide +kernel), List.mem_of_getElem? (i := 1221) (by decide +kernel), List.mem_of_getElem? (i := 1222) (by decide +kernel)⟩
theorem lw_p57 : lw_okq (⟨"FlightReaderModel", "nanos", "(JI)J"⟩, 58) := ⟨⟨by decide +kernel, by decide +kernel⟩, List.mem_of_getElem? (i := 886) (by decide +kernel), List.mem_of_getElem? (i := 1225) (by decide +kernel), List.mem_of_getElem? (i := 1226) (by decide +kernel)⟩
theorem lw_p58 : lw_okq (⟨"FlightReaderModel", "lead", "(II)I"⟩, 58) := ⟨⟨by decide +kernel, by decide +kernel⟩, List.mem_of_getElem? (i := 886) (by decide +kernel), List.mem_of_getElem? (i := 1237) (by decide +kernel), List.mem_of_getElem? (i := 1238) (by decide +kernel)⟩
theorem lw_p59 : lw_okq (⟨"FlightReaderModel", "step", "(I)V"⟩, 58) := ⟨⟨by decide +kernel, by decide +kernel⟩, List.mem_of_getElem? (i := 886) (by decide +kernel), List.mem_of_getElem? (i := 1241) (by decide +kernel), List.mem_of_getElem? (i := 1242) (by decide +kernel)⟩
theorem lw_p60 : lw_okq (⟨"FlightReaderModel", "spotStructure", "()I"⟩, 58) := ⟨⟨by decide +kernel, by decide +kernel⟩, List.mem_of_getElem? (i := 886) (by decide +kernel), List.mem_of_getElem? (i := 1245) (by decide +kernel), List.mem_of_getElem? (i := 1246) (by decide +kernel)⟩
theorem lw_p61 : lw_okq (⟨"FlightReaderModel", "come", "(JI)V"⟩, 58) := ⟨⟨by decide +kernel, by decide +kernel⟩, List.mem_of_getElem? (i := 886) (by decide +kernel), List.mem_of_getElem? (i := 1249) (by decide +kernel), List.mem_of_getElem? (i := 1250) (by decide +kernel)⟩
theorem lw_p62 : lw_okq (⟨"FlightReaderModel", "settle", "()V"⟩, 58) := ⟨⟨by decide +kernel, by decide +kernel⟩, List.mem_of_getElem? (i := 886) (by decide +kernel), List.mem_of_getElem? (i := 1253) (by decide +kernel), List.mem_of_getElem? (i := 1254) (by decide +kernel)⟩
theorem lw_p63 : lw_okq (⟨"FlightReaderModel", "constant", "(JJ)I"⟩, 58) := ⟨⟨by decide +kernel, by decide +kernel⟩, List.mem_of_getElem? (i := 886) (by decide +kernel), List.mem_of_getElem? (i := 1257) (by decide +kernel), List.mem_of_getElem? (i := 1258) (by decide +kernel)⟩
def lw_privs_4 : List (MethodName × Nat) := [(⟨"FlightReaderModel", "text", "()V"⟩, 58), (⟨"FlightReaderModel", "character", "(I)I"⟩, 58), (⟨"FlightReaderModel", "finish", "()V"⟩, 58), (⟨"FlightReaderModel", "toldEvent", "(IJ)V"⟩, 58), (⟨"FlightReaderModel", "chain", "(II)V"⟩, 58), (⟨"FlightReaderModel", "isCheckpoint", "(III)Z"⟩, 58), (⟨"FlightReaderModel", "fails", "(I)I"⟩, 58), (⟨"FlightReaderModel", "isEvent", "(I)Z"⟩, 58), (⟨"FlightReaderModel", "go", "(I)V"⟩, 58), (⟨"FlightReaderModel", "nanos", "(JI)J"⟩, 58), (⟨"FlightReaderModel", "lead", "(II)I"⟩, 58), (⟨"FlightReaderModel", "step", "(I)V"⟩, 58), (⟨"FlightReaderModel", "spotStructure", "()I"⟩, 58), (⟨"FlightReaderModel", "come", "(JI)V"⟩, 58), (⟨"FlightReaderModel", "settle", "()V"⟩, 58), (⟨"FlightReaderModel", "constant", "(JJ)I"⟩, 58)]
theorem lw_r4 : ∀ q ∈ lw_privs_4, lw_okq q := List.forall_mem_cons.mpr ⟨lw_p48, List.forall_mem_cons.mpr ⟨lw_p49, List.forall_mem_cons.mpr ⟨lw_p50, List.forall_mem_cons.mpr ⟨lw_p51, List.forall_mem_cons.mpr ⟨lw_p52, List.forall_mem_cons.mpr ⟨lw_p53, List.forall_mem_cons.mpr ⟨lw_p54, List.forall_mem_cons.mpr ⟨lw_p55, List.forall_mem_cons.mpr ⟨lw_p56, List.forall_mem_cons.mpr ⟨lw_p57, List.forall_mem_cons.mpr ⟨lw_p58, List.forall_mem_cons.mpr ⟨lw_p59, List.forall_mem_cons.mpr ⟨lw_p60, List.forall_mem_cons.mpr ⟨lw_p61, List.forall_mem_cons.mpr ⟨lw_p62, List.forall_mem_cons.mpr ⟨lw_p63, fun _ h => absurd h List.not_mem_nil⟩⟩⟩⟩⟩⟩⟩⟩⟩⟩⟩⟩⟩⟩⟩⟩
theorem lw_p64 : lw_okq (⟨"FlightReaderModel", "worth", "()J"⟩, 58) := ⟨⟨by decide +kernel, by decide +kernel⟩, List.mem_of_getElem? (i := 886) (by decide +kernel), List.mem_of_getElem? (i := 1265) (by decide +kernel), List.mem_of_getElem? (i := 1266) (by decide +kernel)⟩
theorem lw_p65 : lw_okq (⟨"FlightReaderModel", "characterAt", "(I)I"⟩, 58) := ⟨⟨by decide +kernel, by decide +kernel⟩, List.mem_of_getElem? (i := 886) (by decide +kernel), List.mem_of_getElem? (i := 1269) (by decide +kernel), List.mem_of_getElem? (i := 1270) (by decide +kernel)⟩
theorem lw_p66 : lw_okq (⟨"FlightReaderModel", "filter", "()I"⟩, 58) := ⟨⟨by decide +kernel, by decide +kernel⟩, List.mem_of_getElem? (i := 886) (by decide +kernel), List.mem_of_getElem? (i := 1286) (by decide +kernel), List.mem_of_getElem? (i := 1287) (by decide +kernel)⟩
theorem lw_p67 : lw_okq (⟨"FlightReaderModel", "letterAt", "(I)I"⟩, 58) := ⟨⟨by decide +kernel, by decide +kernel⟩, List.mem_of_getElem? (i := 886) (by decide +kernel), List.mem_of_getElem? (i := 1290) (by decide +kernel), List.mem_of_getElem? (i := 1291) (by decide +kernel)⟩
theorem lw_p68 : lw_okq (⟨"FlightReaderModel", "comparison", "(I)I"⟩, 58) := ⟨⟨by decide +kernel, by decide +kernel⟩, List.mem_of_getElem? (i := 886) (by decide +kernel), List.mem_of_getElem? (i := 1294) (by decide +kernel), List.mem_of_getElem? (i := 1295) (by decide +kernel)⟩
theorem lw_p69 : lw_okq (⟨"FlightReaderModel", "passes", "(I)Z"⟩, 58) := ⟨⟨by decide +kernel, by decide +kernel⟩, List.mem_of_getElem? (i := 886) (by decide +kernel), List.mem_of_getElem? (i := 1308) (by decide +kernel), List.mem_of_getElem? (i := 1309) (by decide +kernel)⟩
theorem lw_p70 : lw_okq (⟨"FlightReaderModel", "isNumber", "(II)Z"⟩, 58) := ⟨⟨by decide +kernel, by decide +kernel⟩, List.mem_of_getElem? (i := 886) (by decide +kernel), List.mem_of_getElem? (i := 1312) (by decide +kernel), List.mem_of_getElem? (i := 1313) (by decide +kernel)⟩
theorem lw_p71 : lw_okq (⟨"FlightReaderModel", "gather", "(I)V"⟩, 58) := ⟨⟨by decide +kernel, by decide +kernel⟩, List.mem_of_getElem? (i := 886) (by decide +kernel), List.mem_of_getElem? (i := 1328) (by decide +kernel), List.mem_of_getElem? (i := 1329) (by decide +kernel)⟩
theorem lw_p72 : lw_okq (⟨"FlightReaderModel", "mean", "()J"⟩, 58) := ⟨⟨by decide +kernel, by decide +kernel⟩, List.mem_of_getElem? (i := 886) (by decide +kernel), List.mem_of_getElem? (i := 1332) (by decide +kernel), List.mem_of_getElem? (i := 1333) (by decide +kernel)⟩
theorem lw_p73 : lw_okq (⟨"FlightReaderModel", "groupOf", "(J)I"⟩, 58) := ⟨⟨by decide +kernel, by decide +kernel⟩, List.mem_of_getElem? (i := 886) (by decide +kernel), List.mem_of_getElem? (i := 1340) (by decide +kernel), List.mem_of_getElem? (i := 1341) (by decide +kernel)⟩
theorem lw_p74 : lw_okq (⟨"FlightReaderModel", "join", "(IJ)V"⟩, 58) := ⟨⟨by decide +kernel, by decide +kernel⟩, List.mem_of_getElem? (i := 886) (by decide +kernel), List.mem_of_getElem? (i := 1344) (by decide +kernel), List.mem_of_getElem? (i := 1345) (by decide +kernel)⟩
def lw_privs_5 : List (MethodName × Nat) := [(⟨"FlightReaderModel", "worth", "()J"⟩, 58), (⟨"FlightReaderModel", "characterAt", "(I)I"⟩, 58), (⟨"FlightReaderModel", "filter", "()I"⟩, 58), (⟨"FlightReaderModel", "letterAt", "(I)I"⟩, 58), (⟨"FlightReaderModel", "comparison", "(I)I"⟩, 58), (⟨"FlightReaderModel", "passes", "(I)Z"⟩, 58), (⟨"FlightReaderModel", "isNumber", "(II)Z"⟩, 58), (⟨"FlightReaderModel", "gather", "(I)V"⟩, 58), (⟨"FlightReaderModel", "mean", "()J"⟩, 58), (⟨"FlightReaderModel", "groupOf", "(J)I"⟩, 58), (⟨"FlightReaderModel", "join", "(IJ)V"⟩, 58)]
theorem lw_r5 : ∀ q ∈ lw_privs_5, lw_okq q := List.forall_mem_cons.mpr ⟨lw_p64, List.forall_mem_cons.mpr ⟨lw_p65, List.forall_mem_cons.mpr ⟨lw_p66, List.forall_mem_cons.mpr ⟨lw_p67, List.forall_mem_cons.mpr ⟨lw_p68, List.forall_mem_cons.mpr ⟨lw_p69, List.forall_mem_cons.mpr ⟨lw_p70, List.forall_mem_cons.mpr ⟨lw_p71, List.forall_mem_cons.mpr ⟨lw_p72, List.forall_mem_cons.mpr ⟨lw_p73, List.forall_mem_cons.mpr ⟨lw_p74, fun _ h => absurd h List.not_mem_nil⟩⟩⟩⟩⟩⟩⟩⟩⟩⟩⟩
def lw_privs : List (MethodName × Nat) := lw_privs_1 ++ (lw_privs_2 ++ (lw_privs_3 ++ (lw_privs_4 ++ (lw_privs_5))))
def lw_tbl : List Cond := k2_sels lw_privs ++ tables_1
theorem lw_privs_ok : ∀ q ∈ lw_privs, lw_okq q := by
  show ∀ q ∈ lw_privs_1 ++ (lw_privs_2 ++ (lw_privs_3 ++ (lw_privs_4 ++ (lw_privs_5)))), lw_okq q
  exact List.forall_mem_append.mpr ⟨lw_r1, List.forall_mem_append.mpr ⟨lw_r2, List.forall_mem_append.mpr ⟨lw_r3, List.forall_mem_append.mpr ⟨lw_r4, lw_r5⟩⟩⟩⟩
end
section
/-! ===== BEGIN words of one list among another's, by their places ===== -/
theorem goodIn_r {big : List Cond} (ws : List Cond) (ps : List Nat) (hp : ws = ps.filterMap (fun i => big[i]?)) (h : ws.all goodWord = true) : GoodIn big ws := by
  intro w hw
  have h1 := List.all_eq_true.mp h w hw
  rw [hp] at hw
  obtain ⟨i, -, hi⟩ := List.mem_filterMap.mp hw
  have hm : w ∈ big := by first | exact List.mem_of_getElem? hi | exact List.getElem?_mem hi
  exact ⟨hm, good_of_word h1⟩
theorem goodIn_app {big a b : List Cond} (ha : GoodIn big a) (hb : GoodIn big b) : GoodIn big (a ++ b) := fun w h => (List.mem_append.mp h).elim (ha w) (hb w)
theorem goodIn_ca {big a b : List Cond} {c : Cond} (ha : GoodIn big (c :: a)) (hb : GoodIn big b) : GoodIn big (c :: (a ++ b)) := fun w h => (List.mem_cons.mp h).elim (fun e => ha w (List.mem_cons.mpr (Or.inl e))) (fun h => (List.mem_append.mp h).elim (fun h => ha w (List.mem_cons.mpr (Or.inr h))) (hb w))
theorem goodIn_sub {big ws : List Cond} (hm : ∀ w ∈ ws, w ∈ big) (h : ws.all goodWord = true) : GoodIn big ws := fun w hw => ⟨hm w hw, good_of_word (List.all_eq_true.mp h w hw)⟩
/-! ===== END ===== -/

/-! ===== BEGIN exceptions that leave a method, and their catching by the caller (launches without stack traces) ===== -/
section VXA
/-! The laws vx_back, vx_callV, vx_callS, vx_callSW, vx_throw0, vx_throwS follow proofs of the library, with one case more: JvmDerived/Free/Laws.lean (Back.of_free), Shelf42/LK1.lean (callV, callS), Shelf/KitTraced.lean (throwNew0V, throwNewS). -/
/-- where a method has thrown q: the class by its name, the cell, what was written, the world -/
def vx_T (XC : String → State → State → Prop) (st : State) (q : Addr) (t : State) (mc ms : Nat) (free : Addr → Prop) : Prop :=
  ∃ (E : String) (ce : Cell) (L : List Loc), XC E st t ∧ t.heap[q]? = some ce ∧ ce.vm = .none ∧ st.vm.findClass E = some ce.cls ∧ st.WarmedH t.vm ∧ st.sameButNew ({ t with vm := st.vm } : State) L mc ms ∧ ∀ z ∈ L, free z.base
def vx_Q (Qc : Array Value → State → Outcome → State → Prop) (XC : String → State → State → Prop) (mc ms : Nat) (free : Addr → Prop) : Array Value → State → Outcome → State → Prop := fun a st o t =>
  (Qc a st o t ∧ ∃ L, FrameEnd st o t L mc ms ∧ ∀ q ∈ L, free q.base) ∨ ∃ q, o = .threw q ∧ vx_T XC st q t mc ms free
/-- a callee that returns or throws -/
def vx_Met (l : Launch) (y : MethodName) (ws : List Cond) (rm : Room) (Pc : Array Value → State → Prop) (Qc : Array Value → State → Outcome → State → Prop) (XC : String → State → State → Prop) (mc ms : Nat) (free : Addr → Prop) : Prop :=
  MetFree l y (headSpec ws rm) Pc (fun _ _ _ _ _ => True) (vx_Q Qc XC mc ms free)
def vx_Post (XC : String → State → State → Prop) (mc ms : Nat) (free : Addr → Prop) : Pt → Array Value → Addr → Pt → Prop := fun A a q B =>
  ∃ (g : JFrame) (mk : MethodId) (t : State) (L : List Loc) (E : String) (ce : Cell), B.U.heap = t.heap ∧ B.U.vm = t.vm ∧ XC E (A.U.calling g mk a) t ∧ t.heap[q]? = some ce ∧ ce.vm = .none ∧ A.U.vm.findClass E = some ce.cls ∧ B.locs = A.locs ++ L ∧ (∀ z ∈ L, free z.base) ∧ B.cells = A.cells + mc ∧ B.slots = A.slots + ms
def vx_Back (l : Launch) (R : Room) (p : Program) (e : Env) (below : List Frame) (s : State) (sargs : Array Value) (y : MethodName) (len W9 : Nat)
    (Pre : Pt → Array Value → Prop) (Post : Pt → Array Value → Option Value → Pt → Prop) (PostX : Pt → Array Value → Addr → Pt → Prop) : Prop :=
  ∀ (m : MethodId) (meth : Method) (c : Code) (A : Pt) (g : JFrame) (ig : Instr) (mk : MethodId) (a : Array Value),
    Stand p l e R s m sargs below meth c A.U A.locs A.cells A.slots → g.method = m → g.locals.size = c.maxLocals → decode c.code g.pc = .ok (ig, len) →
    2 * g.monitorRoom + (g.stack.map fun v => v.category).sum ≤ W9 → A.U.methodNamed? y = some mk → Pre A a →
    (∃ (v : Option Value) (B : Pt), Stand p l e R s m sargs below meth c B.U B.locs B.cells B.slots ∧ Post A a v B ∧
      Steps p.tables e below (doInvoke e (A.U.setTop g) [] mk a).1 (B.U.setTop { g with pc := g.pc + len, stack := v.toList ++ g.stack })) ∨
    (∃ (q : Addr) (B : Pt), Stand p l e R s m sargs below meth c B.U B.locs B.cells B.slots ∧ PostX A a q B ∧
      Steps p.tables e below (doInvoke e (A.U.setTop g) [] mk a).1 ((B.U.setTop g).pushFrame (.throwing q)))
section Payer
variable {l : Launch} {R : Room} {p : Program} {e : Env} {below : List Frame} {s : State} {sargs : Array Value} {y : MethodName} {len W9 : Nat}
theorem vx_back {ws : List Cond} {rm : Room} {Pc : Array Value → State → Prop} {Qc : Array Value → State → Outcome → State → Prop} {XC : String → State → State → Prop} {mc ms : Nat} {free : Addr → Prop} {bytes : ByteArray} {maxL : Nat} {ret : Option FieldType}
    (hM : vx_Met l y ws rm Pc Qc XC mc ms free) (hblind : FrameBlind Pc) (hrc : rm.cells = mc) (hrs : rm.slots = ms)
    (hframes : rm.frames + 1 ≤ R.frames) (hlocals : W9 + (maxL + 11) + rm.locals ≤ R.locals)
    (hws : ∀ w ∈ ws, ∀ a' U, s.WarmedH U.vm → w.before a' U = true) (hcode : Cond.code y bytes maxL ret ∈ ws) (hinit : ∀ a' U, s.WarmedH U.vm → (Cond.initialized y.cls).before a' U = true) :
    vx_Back l R p e below s sargs y len W9 (PreOf R mc ms Pc) (PostOf Qc mc ms free) (vx_Post XC mc ms free) := by
  intro m meth c A g ig mk a X hg hsize hdg hW hn hp
  have h1 : (headSpec ws rm).pre.before a A.U = true := atoms_intro fun w hw => hws w hw _ _ X.warmed
  have h2 : (Cond.code y bytes maxL ret).before a A.U = true := hws _ hcode _ _ X.warmed
  have h3 : (Cond.initialized y.cls).before a A.U = true := hinit _ _ X.warmed
  have h4 : A.cells + (headSpec ws rm).room.cells ≤ R.cells := by rw [show (headSpec ws rm).room.cells = mc from hrc]; exact hp.1
  have h5 : A.slots + (headSpec ws rm).room.slots ≤ R.slots := by rw [show (headSpec ws rm).room.slots = ms from hrs]; exact hp.2.1
  have hPc : Pc a (A.U.calling g mk a) := hblind _ _ _ _ hp.2.2
  obtain ⟨U, Ls, c0, s0⟩ := A
  dsimp only [Pt.U, Pt.locs, Pt.cells, Pt.slots] at h1 h2 h3 h4 h5 X hn hPc ⊢
  obtain ⟨methY, cY, hmY, hcY, -, hlY, -, -, -, -⟩ := Cond.code_spec hn h2
  obtain ⟨kY, hkY, -⟩ := className_of_methodNamed hn
  have hinitY : kY.init = .initialized := Cond.initialized_spec (findClass_of_methodNamed hn) hkY h3
  have h : At U g.method c below := by rw [hg]; exact X.here
  have hlocals9 : W9 + (maxL + 11) + (headSpec ws rm).room.locals ≤ R.locals := hlocals
  have happ : (headSpec ws rm).appliesLoose y e.platform (U.calling g mk a) = true :=
    Spec.appliesLoose_calling (g := g) h hdg hn hkY hinitY
      (X.room_calling (g := g) (R' := (headSpec ws rm).room) hsize hmY hcY hframes (by rw [hlY]; omega) h4 h5) h1
  obtain ⟨mid, hmid⟩ := h.above
  have hfr : (U.setTop g).frames = (.java g :: mid) ++ below := by rw [State.frames_setTop' g h.top, hmid]; rfl
  obtain ⟨o, s₂, hsteps, -, hend, hq⟩ := Steps.callFree hM p X.admits X.cas X.clock (acts := []) hfr happ hPc trivial
  have hq' : vx_Q Qc XC mc ms free a (U.calling g mk a) o s₂ := hq
  rw [State.frames_setTop' g h.top] at hend
  obtain ⟨g₀, hg0⟩ := Option.isSome_iff_exists.mp h.top
  obtain ⟨r, hr⟩ := State.topJava?_eq_some.mp hg0
  have hr' : (({ U with heap := s₂.heap, slotsUsed := s₂.slotsUsed } : State).setVm s₂.vm).frames = .java g₀ :: r := hr
  rcases hq' with ⟨hqc, L, hfe, hL⟩ | ⟨q, rfl, E, ce, L, hx, hce, hcv, hcl, hW₂, hsm, hL⟩
  · obtain ⟨⟨v, rfl⟩, hW₂, e2, q2, q3, q4, q5, q6⟩ := id hfe
    have e3 : s₂ = ({ (U.calling g mk a).setFrames s₂.frames with heap := s₂.heap, slotsUsed := s₂.slotsUsed } : State).setVm s₂.vm := by
      have : s₂ = ({ s₂ with vm := (U.calling g mk a).vm } : State).setVm s₂.vm := rfl
      rw [e2] at this
      exact this
    obtain ⟨c₂, i₂, len₂, hc₂, hd₂, hf₂⟩ := hend
    have hW' : U.WarmedH s₂.vm := hW₂
    have hcc : c₂ = c := by
      have h1 : s₂.code? g.method = U.code? g.method := by
        rw [State.code?_eq, State.code?_eq, hW'.alike.method?]
      exact Option.some.inj (hc₂.symm.trans (h1.trans h.code))
    subst hcc
    have hlen : len₂ = len := by rw [hdg] at hd₂; cases hd₂; rfl
    subst hlen
    have hs₂ : s₂ = (({ U with heap := s₂.heap, slotsUsed := s₂.slotsUsed } : State).setVm s₂.vm).setTop { g with pc := g.pc + len₂, stack := v.toList ++ g.stack } := by
      refine e3.trans ?_
      rw [hf₂, State.calling_eq h.top, State.setFrames_setFrames, State.setTop_of_frames _ hr', hr]
      rfl
    have hsame : U.sameButNew ({ U with heap := s₂.heap, slotsUsed := s₂.slotsUsed } : State) L mc ms := by
      refine ⟨?_, q2, q3, q4, q5, q6⟩
      obtain ⟨t, ht, -⟩ := State.frames_cons hr
      show ({ U with heap := s₂.heap, slotsUsed := s₂.slotsUsed } : State) = { U.setFrames U.frames with heap := s₂.heap, slotsUsed := s₂.slotsUsed }
      rw [State.setFrames_self ht]
    subst hg
    refine Or.inl ⟨v, ⟨(({ U with heap := s₂.heap, slotsUsed := s₂.slotsUsed } : State).setVm s₂.vm), Ls ++ L, c0 + mc, s0 + ms⟩,
      ⟨X.admits, X.cas, X.clock, X.frames, X.room, X.hears, X.method, X.code, (X.here.setHeapUsed s₂.heap s₂.slotsUsed).setVm hW'.alike, X.tail, State.WarmedH.trans X.warmed hW', X.limits, X.bytes, X.same.trans (hsame.setVm s.vm)⟩,
      ⟨g, mk, s₂, L, rfl, rfl, hqc, rfl, hL, rfl, rfl⟩, ?_⟩
    show Steps p.tables e below _ ((({ U with heap := s₂.heap, slotsUsed := s₂.slotsUsed } : State).setVm s₂.vm).setTop { g with pc := g.pc + len₂, stack := v.toList ++ g.stack })
    rw [← hs₂]
    exact hsteps
  · obtain ⟨e2, q2, q3, q4, q5, q6⟩ := id hsm
    have e3 : s₂ = ({ (U.calling g mk a).setFrames s₂.frames with heap := s₂.heap, slotsUsed := s₂.slotsUsed } : State).setVm s₂.vm := by
      have : s₂ = ({ s₂ with vm := (U.calling g mk a).vm } : State).setVm s₂.vm := rfl
      rw [e2] at this
      exact this
    have hf₂ : s₂.frames = .throwing q :: .java g :: U.frames.tail := hend
    have hW' : U.WarmedH s₂.vm := hW₂
    have hs₂ : s₂ = ((({ U with heap := s₂.heap, slotsUsed := s₂.slotsUsed } : State).setVm s₂.vm).setTop g).pushFrame (.throwing q) := by
      refine e3.trans ?_
      rw [hf₂, State.calling_eq h.top, State.setFrames_setFrames, State.pushFrame, State.frames_setTop _ hr', State.setTop_of_frames _ hr', State.setFrames_setFrames, hr]
      rfl
    have hsame : U.sameButNew ({ U with heap := s₂.heap, slotsUsed := s₂.slotsUsed } : State) L mc ms := by
      refine ⟨?_, q2, q3, q4, q5, q6⟩
      obtain ⟨t, ht, -⟩ := State.frames_cons hr
      show ({ U with heap := s₂.heap, slotsUsed := s₂.slotsUsed } : State) = { U.setFrames U.frames with heap := s₂.heap, slotsUsed := s₂.slotsUsed }
      rw [State.setFrames_self ht]
    subst hg
    refine Or.inr ⟨q, ⟨(({ U with heap := s₂.heap, slotsUsed := s₂.slotsUsed } : State).setVm s₂.vm), Ls ++ L, c0 + mc, s0 + ms⟩,
      ⟨X.admits, X.cas, X.clock, X.frames, X.room, X.hears, X.method, X.code, (X.here.setHeapUsed s₂.heap s₂.slotsUsed).setVm hW'.alike, X.tail, State.WarmedH.trans X.warmed hW', X.limits, X.bytes, X.same.trans (hsame.setVm s.vm)⟩,
      ⟨g, mk, s₂, L, E, ce, rfl, rfl, hx, hce, hcv, hcl, rfl, hL, rfl, rfl⟩, ?_⟩
    show Steps p.tables e below _ (((({ U with heap := s₂.heap, slotsUsed := s₂.slotsUsed } : State).setVm s₂.vm).setTop g).pushFrame (.throwing q))
    rw [← hs₂]
    exact hsteps
end Payer
section Calls
variable {p : Program} {l : Launch} {e : Env} {R : Room} {s : State} {m : MethodId} {args : Array Value} {below : List Frame} {meth : Method} {c : Code} {T : State} {locs : List Loc} {cells slots : Nat}
theorem vx_callV (X : Stand p l e R s m args below meth c T locs cells slots) (hexec : p.tables.exec = Jvm.exec) {own C : String} {index : Nat} {y : MethodName} {bytes : ByteArray} {maxL : Nat} {ret : Option FieldType}
    (hown : s.vm.findClass own = some m.cls) (hlink : (Cond.methodLink own index y).before args s = true) (hinst : (Cond.instanceMethod y).before args s = true) (hsel : (Cond.selects C y y).before args s = true)
    (hcode : (Cond.code y bytes maxL ret).before args s = true) (hy : y.cls ≠ "java/lang/invoke/MethodHandle" ∧ y.cls ≠ "java/lang/invoke/VarHandle")
    {W9 : Nat} {Pre : Pt → Array Value → Prop} {Post : Pt → Array Value → Option Value → Pt → Prop} {PostX : Pt → Array Value → Addr → Pt → Prop} (hK : vx_Back l R p e below s args y 3 W9 Pre Post PostX)
    {b : Addr} {cellB : Cell} (hcell : T.heap[b]? = some cellB) (hobj : cellB.vm.isStatics = false) (hcls : s.vm.findClass C = some cellB.cls)
    {g : JFrame} (hg : g.method = m) (hsize : g.locals.size = c.maxLocals) {argsL rest : List Value} (hlen : ∀ sig, parseMethodDescriptor y.desc = some sig → argsL.length = sig.parameters.length)
    (hstack : g.stack = argsL.reverse ++ .ref b :: rest) (hW : 2 * g.monitorRoom + (rest.map fun v => v.category).sum ≤ W9) (hdg : decode c.code g.pc = .ok (.invokevirtual index, 3))
    (hpre : ∀ vm₁, s.WarmedH vm₁ → Pre ⟨T.setVm vm₁, locs, cells, slots⟩ (Value.ref b :: argsL).toArray) :
    (∃ (v : Option Value) (vm₁ : Vm) (B : Pt), s.WarmedH vm₁ ∧ Stand p l e R s m args below meth c B.U B.locs B.cells B.slots ∧ Post ⟨T.setVm vm₁, locs, cells, slots⟩ (Value.ref b :: argsL).toArray v B ∧
      ∀ target, Steps p.tables e below (B.U.setTop { g with pc := g.pc + 3, stack := v.toList ++ rest }) target → Steps p.tables e below (T.setTop g) target) ∨
    (∃ (q : Addr) (vm₁ : Vm) (B : Pt), s.WarmedH vm₁ ∧ Stand p l e R s m args below meth c B.U B.locs B.cells B.slots ∧ PostX ⟨T.setVm vm₁, locs, cells, slots⟩ (Value.ref b :: argsL).toArray q B ∧
      Steps p.tables e below (T.setTop g) ((B.U.setTop { g with stack := rest }).pushFrame (.throwing q))) := by
  obtain ⟨mk, methM, hnamed, hmethM, hstM, habM⟩ := Cond.instanceMethod_spec hinst
  obtain ⟨methM', cM, hmethM', -, -, -, -, -, -, hsigM⟩ := Cond.code_spec hnamed hcode
  cases hmethM.symm.trans hmethM'
  obtain ⟨c2, r2, m2, q1, q2, q3, q4, kP, hkP, hkPi⟩ := Cond.selects_spec hsel
  cases hcls.symm.trans q1
  cases (State.methodFound?_of_named hnamed hy).symm.trans q2
  cases hnamed.symm.trans q3
  have hselP : selectMethod e.platform s.vm cellB.cls mk = .method mk := by rw [Launch.admits_selectMethod X.admits]; exact q4
  obtain ⟨vm₁, X₁, hstep₁⟩ := X.invokevirtual hexec hown hlink hnamed hmethM hstM hkP hkPi hy (a := b) (cell := cellB) hcell
    (fun z h => by rw [h] at hobj; cases hobj) hselP hmethM habM hkP hkPi (g := g) hg (argsL := argsL) (rest := rest) (hlen _ hsigM) hstack hdg
  rcases hK m meth c ⟨T.setVm vm₁, locs, cells, slots⟩ { g with stack := rest } (.invokevirtual index) mk (Value.ref b :: argsL).toArray X₁ hg hsize hdg hW (X₁.named hnamed) (hpre vm₁ X₁.warmed) with ⟨v, B, X', hpost, hsteps⟩ | ⟨q, B, X', hpost, hsteps⟩
  · exact Or.inl ⟨v, vm₁, B, X₁.warmed, X', hpost, fun target h => hstep₁ _ fun acts => by rw [doInvoke_state]; exact hsteps.trans h⟩
  · exact Or.inr ⟨q, vm₁, B, X₁.warmed, X', hpost, hstep₁ _ fun acts => by rw [doInvoke_state]; exact hsteps⟩
theorem vx_callS (X : Stand p l e R s m args below meth c T locs cells slots) (hexec : p.tables.exec = Jvm.exec) {own : String} {index : Nat} {y : MethodName} {bytes : ByteArray} {maxL : Nat} {ret : Option FieldType}
    (hown : s.vm.findClass own = some m.cls) (hlink : (Cond.methodLink own index y).before args s = true) (hstat : (Cond.static y).before args s = true) (hinit : (Cond.initialized y.cls).before args s = true)
    (hcode : (Cond.code y bytes maxL ret).before args s = true) (hy : y.cls ≠ "java/lang/invoke/MethodHandle" ∧ y.cls ≠ "java/lang/invoke/VarHandle")
    {W9 : Nat} {Pre : Pt → Array Value → Prop} {Post : Pt → Array Value → Option Value → Pt → Prop} {PostX : Pt → Array Value → Addr → Pt → Prop} (hK : vx_Back l R p e below s args y 3 W9 Pre Post PostX)
    {g : JFrame} (hg : g.method = m) (hsize : g.locals.size = c.maxLocals) {argsL rest : List Value} (hlen : ∀ sig, parseMethodDescriptor y.desc = some sig → argsL.length = sig.parameters.length)
    (hstack : g.stack = argsL.reverse ++ rest) (hW : 2 * g.monitorRoom + (rest.map fun v => v.category).sum ≤ W9) (hdg : decode c.code g.pc = .ok (.invokestatic index, 3))
    (hpre : ∀ vm₁, s.WarmedH vm₁ → Pre ⟨T.setVm vm₁, locs, cells, slots⟩ argsL.toArray) :
    (∃ (v : Option Value) (vm₁ : Vm) (B : Pt), s.WarmedH vm₁ ∧ Stand p l e R s m args below meth c B.U B.locs B.cells B.slots ∧ Post ⟨T.setVm vm₁, locs, cells, slots⟩ argsL.toArray v B ∧
      ∀ target, Steps p.tables e below (B.U.setTop { g with pc := g.pc + 3, stack := v.toList ++ rest }) target → Steps p.tables e below (T.setTop g) target) ∨
    (∃ (q : Addr) (vm₁ : Vm) (B : Pt), s.WarmedH vm₁ ∧ Stand p l e R s m args below meth c B.U B.locs B.cells B.slots ∧ PostX ⟨T.setVm vm₁, locs, cells, slots⟩ argsL.toArray q B ∧
      Steps p.tables e below (T.setTop g) ((B.U.setTop { g with stack := rest }).pushFrame (.throwing q))) := by
  obtain ⟨mk, hnamed⟩ := Cond.code_named hcode
  obtain ⟨methM, cM, hmethM, -, -, -, -, -, -, hsigM⟩ := Cond.code_spec hnamed hcode
  have hstatic : methM.isStatic = true := Cond.static_spec hnamed hmethM hstat
  obtain ⟨kP, hkP, -⟩ := className_of_methodNamed hnamed
  have hinitP : kP.init = .initialized := Cond.initialized_spec (findClass_of_methodNamed hnamed) hkP hinit
  obtain ⟨vm₁, X₁, hstep₁⟩ := X.invokestatic hexec hown hlink hnamed hmethM hstatic hkP hinitP hy (g := g) hg (argsL := argsL) (rest := rest) (hlen _ hsigM) hstack hdg
  rcases hK m meth c ⟨T.setVm vm₁, locs, cells, slots⟩ { g with stack := rest } (.invokestatic index) mk argsL.toArray X₁ hg hsize hdg hW (X₁.named hnamed) (hpre vm₁ X₁.warmed) with ⟨v, B, X', hpost, hsteps⟩ | ⟨q, B, X', hpost, hsteps⟩
  · exact Or.inl ⟨v, vm₁, B, X₁.warmed, X', hpost, fun target h => hstep₁ _ fun acts => by rw [doInvoke_state]; exact hsteps.trans h⟩
  · exact Or.inr ⟨q, vm₁, B, X₁.warmed, X', hpost, hstep₁ _ fun acts => by rw [doInvoke_state]; exact hsteps⟩
end Calls
theorem vx_cls {s : State} {T : State} {vm₁ : Vm} {E : String} {k : ClassId} (hW : s.WarmedH vm₁) (h : (T.setVm vm₁).vm.findClass E = some k) : s.vm.findClass E = some k := by
  have h1 : vm₁.findClass E = some k := h
  rw [hW.alike.findClass] at h1
  exact h1
/-- the method's frame g, with q thrown over it -/
def vx_W (p : Program) (l : Launch) (e : Env) (R : Room) (s : State) (m : MethodId) (args : Array Value) (below : List Frame) (meth : Method) (c : Code) (H : Heap) (locs : List Loc) (cells slots : Nat) (Q : State → Prop) (g : JFrame) (q : Addr) : Prop :=
  ∀ T : State, T.heap = H → Stand p l e R s m args below meth c T locs cells slots → ∃ t, Steps p.tables e below ((T.setTop g).pushFrame (.throwing q)) t ∧ Q t
def vx_Run (p : Program) (l : Launch) (e : Env) (R : Room) (s : State) (m : MethodId) (args : Array Value) (below : List Frame) (meth : Method) (c : Code) (H : Heap) (locs : List Loc) (cells slots mc ms : Nat) (g : JFrame) (rest : List Value) (Qa : State → Outcome → State → Prop) (XC : String → State → State → Prop) (free : Addr → Prop) : Prop :=
  ∀ T : State, T.heap = H → Stand p l e R s m args below meth c T locs cells slots →
    (∃ (v : Option Value) (st₀ t T' : State) (L : List Loc), st₀.heap = H ∧ Stand p l e R s m args below meth c T' (locs ++ L) (cells + mc) (slots + ms) ∧ (∀ q ∈ L, free q.base) ∧ T'.heap = t.heap ∧ T'.vm = t.vm ∧ Qa st₀ (.returned v) t ∧
      Goes p e below T g T' { g with pc := g.pc + 3, stack := v.toList ++ rest }) ∨
    (∃ (q : Addr) (st₀ t T' : State) (L : List Loc) (E : String) (ce : Cell), st₀.heap = H ∧ Stand p l e R s m args below meth c T' (locs ++ L) (cells + mc) (slots + ms) ∧ (∀ z ∈ L, free z.base) ∧ T'.heap = t.heap ∧ T'.vm = t.vm ∧ XC E st₀ t ∧ t.heap[q]? = some ce ∧ ce.vm = .none ∧ s.vm.findClass E = some ce.cls ∧
      Steps p.tables e below (T.setTop g) ((T'.setTop { g with stack := rest }).pushFrame (.throwing q)))
def vx_X {S : Type} (px : S → Prop) (B : String → S → State → Prop) (A : Nat → Prop) : String → State → State → Prop := fun E st t => ∃ u : S, px u ∧ B E u t ∧ va_F A st t
section Runs
variable {p : Program} {l : Launch} {e : Env} {R : Room} {s : State} {m : MethodId} {args : Array Value} {below : List Frame} {meth : Method} {c : Code} {H : Heap} {locs : List Loc} {cells slots : Nat}
variable {y : MethodName} {bytes cc : ByteArray} {maxL nL mc ms n index : Nat} {ret : Option FieldType} {ws : List Cond} {rm : Room} {Pc : Array Value → State → Prop} {Qc : Array Value → State → Outcome → State → Prop} {XC : String → State → State → Prop} {free : Addr → Prop} {Ts : List Cond} {own C : String} {b : Addr} {As rest : List Value} {g : JFrame}
theorem vx_callBack (cb : CallB R s args own index y bytes maxL ret ws rm mc ms n) (hM : vx_Met l y ws rm Pc Qc XC mc ms free) (hbl : FrameBlind Pc) : vx_Back l R p e below s args y 3 8 (PreOf R mc ms Pc) (PostOf Qc mc ms free) (vx_Post XC mc ms free) := by
  obtain ⟨hrc, hrs, hfr, hlo, hws, hcw, -, hini, -⟩ := cb
  exact vx_back (bytes := bytes) (maxL := maxL) (ret := ret) hM hbl hrc hrs hfr hlo hws hcw (fun a' U hW => word_at hW (Or.inl (by first | rfl | simp [Cond.onTables, Cond.keeps, Cond.steady])) hini)
theorem vx_runV (S : CallFix p m c cc nL s args Ts own) (hM : vx_Met l y ws rm Pc Qc XC mc ms free) (cw : CallW R s args own C index y bytes maxL ret ws rm mc ms n) (hp : PreV s H C b Pc As)
    (hg : g.method = m) (hn : As.length = n) (hsize : g.locals.size = nL) (hstack : g.stack = As.reverse ++ .ref b :: rest) (hW : 2 * g.monitorRoom + (rest.map fun v => v.category).sum ≤ 8) (hdg : decode cc g.pc = .ok (.invokevirtual index, 3)) (hf : cells + mc ≤ R.cells ∧ slots + ms ≤ R.slots) :
    vx_Run p l e R s m args below meth c H locs cells slots mc ms g rest (Qc (Value.ref b :: As).toArray) XC free := by
  have hK : vx_Back l R p e below s args y 3 8 (PreOf R mc ms Pc) (PostOf Qc mc ms free) (vx_Post XC mc ms free) := vx_callBack cw.1 hM hp.1
  obtain ⟨⟨-, -, -, -, -, -, hcode, -, hy, hlen, hl⟩, hin, hse⟩ := cw
  obtain ⟨hx, hb, hml, ho, -⟩ := S
  obtain ⟨-, ⟨cellB, hcB, hoB, hclB⟩, hPc⟩ := hp
  intro T hT X
  rcases vx_callV X hx (C := C) (bytes := bytes) (maxL := maxL) (ret := ret) ho hl hin hse hcode hy hK (by rw [hT]; exact hcB) hoB hclB hg (hsize.trans hml.symm) (argsL := As) (rest := rest) (fun sig h => hn.trans (hlen sig h)) hstack hW (by rw [hb]; exact hdg)
    (fun vm₁ hW₁ => ⟨hf.1, hf.2, hPc (T.setVm vm₁) hT hW₁⟩) with ⟨v, vm₁, ⟨U', l2, c2, s2⟩, hW₁, X', ⟨g', mk, t, L, e1, e2, hq, h1, hL, h2, h3⟩, st⟩ | ⟨q, vm₁, ⟨U', l2, c2, s2⟩, hW₁, X', ⟨g', mk, t, L, E, ce, e1, e2, hq, hce, hcv, hcl, h1, hL, h2, h3⟩, st⟩
  · dsimp only [Pt.U, Pt.locs, Pt.cells, Pt.slots] at X' e1 e2 h1 h2 h3 st
    subst h1; subst h2; subst h3
    exact Or.inl ⟨v, (T.setVm vm₁).calling g' mk (Value.ref b :: As).toArray, t, U', L, hT, X', hL, e1, e2, hq, st⟩
  · dsimp only [Pt.U, Pt.locs, Pt.cells, Pt.slots] at X' e1 e2 h1 h2 h3 st hcl
    subst h1; subst h2; subst h3
    exact Or.inr ⟨q, (T.setVm vm₁).calling g' mk (Value.ref b :: As).toArray, t, U', L, E, ce, hT, X', hL, e1, e2, hq, hce, hcv, vx_cls hW₁ hcl, st⟩
theorem vx_runS (S : CallFix p m c cc nL s args Ts own) (hM : vx_Met l y ws rm Pc Qc XC mc ms free) (cw : CallB R s args own index y bytes maxL ret ws rm mc ms n ∧ (Cond.static y).before args s = true) (hp : PreS s H Pc As)
    (hg : g.method = m) (hn : As.length = n) (hsize : g.locals.size = nL) (hstack : g.stack = As.reverse ++ rest) (hW : 2 * g.monitorRoom + (rest.map fun v => v.category).sum ≤ 8) (hdg : decode cc g.pc = .ok (.invokestatic index, 3)) (hf : cells + mc ≤ R.cells ∧ slots + ms ≤ R.slots) :
    vx_Run p l e R s m args below meth c H locs cells slots mc ms g rest (Qc As.toArray) XC free := by
  have hK : vx_Back l R p e below s args y 3 8 (PreOf R mc ms Pc) (PostOf Qc mc ms free) (vx_Post XC mc ms free) := vx_callBack cw.1 hM hp.1
  obtain ⟨⟨-, -, -, -, -, -, hcode, hini, hy, hlen, hl⟩, hstt⟩ := cw
  obtain ⟨hx, hb, hml, ho, -⟩ := S
  intro T hT X
  rcases vx_callS X hx (bytes := bytes) (maxL := maxL) (ret := ret) ho hl hstt hini hcode hy hK hg (hsize.trans hml.symm) (argsL := As) (rest := rest) (fun sig h => hn.trans (hlen sig h)) hstack hW (by rw [hb]; exact hdg)
    (fun vm₁ hW₁ => ⟨hf.1, hf.2, hp.2 (T.setVm vm₁) hT hW₁⟩) with ⟨v, vm₁, ⟨U', l2, c2, s2⟩, hW₁, X', ⟨g', mk, t, L, e1, e2, hq, h1, hL, h2, h3⟩, st⟩ | ⟨q, vm₁, ⟨U', l2, c2, s2⟩, hW₁, X', ⟨g', mk, t, L, E, ce, e1, e2, hq, hce, hcv, hcl, h1, hL, h2, h3⟩, st⟩
  · dsimp only [Pt.U, Pt.locs, Pt.cells, Pt.slots] at X' e1 e2 h1 h2 h3 st
    subst h1; subst h2; subst h3
    exact Or.inl ⟨v, (T.setVm vm₁).calling g' mk As.toArray, t, U', L, hT, X', hL, e1, e2, hq, st⟩
  · dsimp only [Pt.U, Pt.locs, Pt.cells, Pt.slots] at X' e1 e2 h1 h2 h3 st hcl
    subst h1; subst h2; subst h3
    exact Or.inr ⟨q, (T.setVm vm₁).calling g' mk As.toArray, t, U', L, E, ce, hT, X', hL, e1, e2, hq, hce, hcv, vx_cls hW₁ hcl, st⟩
end Runs
section Rows
variable {p : Program} {l : Launch} {e : Env} {R : Room} {s : State} {m : MethodId} {args : Array Value} {below : List Frame} {meth : Method} {c : Code} {H : Heap} {locs : List Loc} {cells slots : Nat} {Q : State → Prop}
variable {mc ms : Nat} {free : Addr → Prop} {A0 A1 : Nat → Prop} {H0 : Heap} {a : Array Value} {pc : Nat} {ls : Array Slot} {st0 rest : List Value}
theorem vx_keep {st₀ t T' : State} {L : List Loc} (h0 : st₀.heap = H) (e1 : T'.heap = t.heap) (hS : va_S A0 H0 H locs) (hA : ∀ q, q < H.size → A1 q → A0 q) (hf : ∀ q, free q → A0 q) (hL : ∀ q ∈ L, free q.base) (hF : va_F A1 st₀ t) :
    H.size ≤ T'.heap.size ∧ (∀ q : Nat, q < H.size → ¬ A1 q → T'.heap[q]? = H[q]?) ∧ va_S A0 H0 T'.heap (locs ++ L) := by
  obtain ⟨hz, hk⟩ := hF
  rw [h0] at hz hk
  exact ⟨by rw [e1]; exact hz, fun q h1 h2 => by rw [e1]; exact hk q h1 h2,
    ⟨Nat.le_trans hS.1 (by rw [e1]; exact hz), fun q h1 h2 => by rw [e1, hk q (Nat.lt_of_lt_of_le h1 hS.1) (fun z => h2 (hA q (Nat.lt_of_lt_of_le h1 hS.1) z))]; exact hS.2.1 q h1 h2, fun q hq => by
      rcases List.mem_append.mp hq with h | h
      · exact hS.2.2 q h
      · exact hf _ (hL q h)⟩⟩
theorem vx_calli {S SX : Type} {post : Int32 → S → Prop} {px : SX → Prop} {B : S → State → Prop} {BX : String → SX → State → Prop} {AX : Nat → Prop} (hr : vx_Run p l e R s m args below meth c H locs cells slots mc ms (F0 m pc ls st0) rest (va_Qi post B A1 a) (vx_X px BX AX) free) (hS : va_S A0 H0 H locs) (hA : ∀ q, q < H.size → A1 q → A0 q) (hf : ∀ q, free q → A0 q) (hAX : ∀ q, q < H.size → AX q → A0 q)
    (kx : ∀ (E : String) (ce : Cell) (q9 : Addr) (u : SX) (t : State) (H1 : Heap) (locs1 : List Loc), t.heap = H1 → s.vm.Alike t.vm → px u → BX E u t → H.size ≤ H1.size → (∀ q : Nat, q < H.size → ¬ AX q → H1[q]? = H[q]?) → va_S A0 H0 H1 locs1 → H1[q9]? = some ce → ce.vm = .none → s.vm.findClass E = some ce.cls → vx_W p l e R s m args below meth c H1 locs1 (cells + mc) (slots + ms) Q (F0 m pc ls rest) q9)
    (kk : ∀ (r : Int32) (u : S) (t : State) (H1 : Heap) (locs1 : List Loc), t.heap = H1 → s.vm.Alike t.vm → post r u → B u t → H.size ≤ H1.size → (∀ q : Nat, q < H.size → ¬ A1 q → H1[q]? = H[q]?) → va_S A0 H0 H1 locs1 → W p l e R s m args below meth c H1 locs1 (cells + mc) (slots + ms) Q (F0 m (pc + 3) ls (.int r :: rest))) : W p l e R s m args below meth c H locs cells slots Q (F0 m pc ls st0) := by
  intro T hT X
  rcases hr T hT X with ⟨v, st₀, t, T', L, h0, X', hL, e1, e2, ⟨⟨r, u, hv, hp, hb⟩, hF⟩, st⟩ | ⟨q, st₀, t, T', L, E, ce, h0, X', hL, e1, e2, ⟨u, hp, hb, hF⟩, hce, hcv, hcl, st⟩
  · cases hv
    obtain ⟨k1, k2, k3⟩ := vx_keep h0 e1 hS hA hf hL hF
    obtain ⟨t2, a1, b1⟩ := kk r u t T'.heap (locs ++ L) e1.symm (by rw [← e2]; exact X'.warmed.alike) hp hb k1 k2 k3 T' rfl X'
    exact ⟨t2, st t2 a1, b1⟩
  · obtain ⟨k1, k2, k3⟩ := vx_keep h0 e1 hS hAX hf hL hF
    obtain ⟨t2, a1, b1⟩ := kx E ce q u t T'.heap (locs ++ L) e1.symm (by rw [← e2]; exact X'.warmed.alike) hp hb k1 k2 k3 (by rw [e1]; exact hce) hcv hcl T' rfl X'
    exact ⟨t2, st.trans a1, b1⟩
theorem vx_calll {S SX : Type} {post : Int64 → S → Prop} {px : SX → Prop} {B : S → State → Prop} {BX : String → SX → State → Prop} {AX : Nat → Prop} (hr : vx_Run p l e R s m args below meth c H locs cells slots mc ms (F0 m pc ls st0) rest (va_Ql post B A1 a) (vx_X px BX AX) free) (hS : va_S A0 H0 H locs) (hA : ∀ q, q < H.size → A1 q → A0 q) (hf : ∀ q, free q → A0 q) (hAX : ∀ q, q < H.size → AX q → A0 q)
    (kx : ∀ (E : String) (ce : Cell) (q9 : Addr) (u : SX) (t : State) (H1 : Heap) (locs1 : List Loc), t.heap = H1 → s.vm.Alike t.vm → px u → BX E u t → H.size ≤ H1.size → (∀ q : Nat, q < H.size → ¬ AX q → H1[q]? = H[q]?) → va_S A0 H0 H1 locs1 → H1[q9]? = some ce → ce.vm = .none → s.vm.findClass E = some ce.cls → vx_W p l e R s m args below meth c H1 locs1 (cells + mc) (slots + ms) Q (F0 m pc ls rest) q9)
    (kk : ∀ (r : Int64) (u : S) (t : State) (H1 : Heap) (locs1 : List Loc), t.heap = H1 → s.vm.Alike t.vm → post r u → B u t → H.size ≤ H1.size → (∀ q : Nat, q < H.size → ¬ A1 q → H1[q]? = H[q]?) → va_S A0 H0 H1 locs1 → W p l e R s m args below meth c H1 locs1 (cells + mc) (slots + ms) Q (F0 m (pc + 3) ls (.long r :: rest))) : W p l e R s m args below meth c H locs cells slots Q (F0 m pc ls st0) := by
  intro T hT X
  rcases hr T hT X with ⟨v, st₀, t, T', L, h0, X', hL, e1, e2, ⟨⟨r, u, hv, hp, hb⟩, hF⟩, st⟩ | ⟨q, st₀, t, T', L, E, ce, h0, X', hL, e1, e2, ⟨u, hp, hb, hF⟩, hce, hcv, hcl, st⟩
  · cases hv
    obtain ⟨k1, k2, k3⟩ := vx_keep h0 e1 hS hA hf hL hF
    obtain ⟨t2, a1, b1⟩ := kk r u t T'.heap (locs ++ L) e1.symm (by rw [← e2]; exact X'.warmed.alike) hp hb k1 k2 k3 T' rfl X'
    exact ⟨t2, st t2 a1, b1⟩
  · obtain ⟨k1, k2, k3⟩ := vx_keep h0 e1 hS hAX hf hL hF
    obtain ⟨t2, a1, b1⟩ := kx E ce q u t T'.heap (locs ++ L) e1.symm (by rw [← e2]; exact X'.warmed.alike) hp hb k1 k2 k3 (by rw [e1]; exact hce) hcv hcl T' rfl X'
    exact ⟨t2, st.trans a1, b1⟩
theorem vx_callf {S SX : Type} {post : UInt32 → S → Prop} {px : SX → Prop} {B : S → State → Prop} {BX : String → SX → State → Prop} {AX : Nat → Prop} (hr : vx_Run p l e R s m args below meth c H locs cells slots mc ms (F0 m pc ls st0) rest (va_Qf post B A1 a) (vx_X px BX AX) free) (hS : va_S A0 H0 H locs) (hA : ∀ q, q < H.size → A1 q → A0 q) (hf : ∀ q, free q → A0 q) (hAX : ∀ q, q < H.size → AX q → A0 q)
    (kx : ∀ (E : String) (ce : Cell) (q9 : Addr) (u : SX) (t : State) (H1 : Heap) (locs1 : List Loc), t.heap = H1 → s.vm.Alike t.vm → px u → BX E u t → H.size ≤ H1.size → (∀ q : Nat, q < H.size → ¬ AX q → H1[q]? = H[q]?) → va_S A0 H0 H1 locs1 → H1[q9]? = some ce → ce.vm = .none → s.vm.findClass E = some ce.cls → vx_W p l e R s m args below meth c H1 locs1 (cells + mc) (slots + ms) Q (F0 m pc ls rest) q9)
    (kk : ∀ (r : UInt32) (u : S) (t : State) (H1 : Heap) (locs1 : List Loc), t.heap = H1 → s.vm.Alike t.vm → post r u → B u t → H.size ≤ H1.size → (∀ q : Nat, q < H.size → ¬ A1 q → H1[q]? = H[q]?) → va_S A0 H0 H1 locs1 → W p l e R s m args below meth c H1 locs1 (cells + mc) (slots + ms) Q (F0 m (pc + 3) ls (.float r :: rest))) : W p l e R s m args below meth c H locs cells slots Q (F0 m pc ls st0) := by
  intro T hT X
  rcases hr T hT X with ⟨v, st₀, t, T', L, h0, X', hL, e1, e2, ⟨⟨r, u, hv, hp, hb⟩, hF⟩, st⟩ | ⟨q, st₀, t, T', L, E, ce, h0, X', hL, e1, e2, ⟨u, hp, hb, hF⟩, hce, hcv, hcl, st⟩
  · cases hv
    obtain ⟨k1, k2, k3⟩ := vx_keep h0 e1 hS hA hf hL hF
    obtain ⟨t2, a1, b1⟩ := kk r u t T'.heap (locs ++ L) e1.symm (by rw [← e2]; exact X'.warmed.alike) hp hb k1 k2 k3 T' rfl X'
    exact ⟨t2, st t2 a1, b1⟩
  · obtain ⟨k1, k2, k3⟩ := vx_keep h0 e1 hS hAX hf hL hF
    obtain ⟨t2, a1, b1⟩ := kx E ce q u t T'.heap (locs ++ L) e1.symm (by rw [← e2]; exact X'.warmed.alike) hp hb k1 k2 k3 (by rw [e1]; exact hce) hcv hcl T' rfl X'
    exact ⟨t2, st.trans a1, b1⟩
theorem vx_calld {S SX : Type} {post : UInt64 → S → Prop} {px : SX → Prop} {B : S → State → Prop} {BX : String → SX → State → Prop} {AX : Nat → Prop} (hr : vx_Run p l e R s m args below meth c H locs cells slots mc ms (F0 m pc ls st0) rest (va_Qd post B A1 a) (vx_X px BX AX) free) (hS : va_S A0 H0 H locs) (hA : ∀ q, q < H.size → A1 q → A0 q) (hf : ∀ q, free q → A0 q) (hAX : ∀ q, q < H.size → AX q → A0 q)
    (kx : ∀ (E : String) (ce : Cell) (q9 : Addr) (u : SX) (t : State) (H1 : Heap) (locs1 : List Loc), t.heap = H1 → s.vm.Alike t.vm → px u → BX E u t → H.size ≤ H1.size → (∀ q : Nat, q < H.size → ¬ AX q → H1[q]? = H[q]?) → va_S A0 H0 H1 locs1 → H1[q9]? = some ce → ce.vm = .none → s.vm.findClass E = some ce.cls → vx_W p l e R s m args below meth c H1 locs1 (cells + mc) (slots + ms) Q (F0 m pc ls rest) q9)
    (kk : ∀ (r : UInt64) (u : S) (t : State) (H1 : Heap) (locs1 : List Loc), t.heap = H1 → s.vm.Alike t.vm → post r u → B u t → H.size ≤ H1.size → (∀ q : Nat, q < H.size → ¬ A1 q → H1[q]? = H[q]?) → va_S A0 H0 H1 locs1 → W p l e R s m args below meth c H1 locs1 (cells + mc) (slots + ms) Q (F0 m (pc + 3) ls (.double r :: rest))) : W p l e R s m args below meth c H locs cells slots Q (F0 m pc ls st0) := by
  intro T hT X
  rcases hr T hT X with ⟨v, st₀, t, T', L, h0, X', hL, e1, e2, ⟨⟨r, u, hv, hp, hb⟩, hF⟩, st⟩ | ⟨q, st₀, t, T', L, E, ce, h0, X', hL, e1, e2, ⟨u, hp, hb, hF⟩, hce, hcv, hcl, st⟩
  · cases hv
    obtain ⟨k1, k2, k3⟩ := vx_keep h0 e1 hS hA hf hL hF
    obtain ⟨t2, a1, b1⟩ := kk r u t T'.heap (locs ++ L) e1.symm (by rw [← e2]; exact X'.warmed.alike) hp hb k1 k2 k3 T' rfl X'
    exact ⟨t2, st t2 a1, b1⟩
  · obtain ⟨k1, k2, k3⟩ := vx_keep h0 e1 hS hAX hf hL hF
    obtain ⟨t2, a1, b1⟩ := kx E ce q u t T'.heap (locs ++ L) e1.symm (by rw [← e2]; exact X'.warmed.alike) hp hb k1 k2 k3 (by rw [e1]; exact hce) hcv hcl T' rfl X'
    exact ⟨t2, st.trans a1, b1⟩
theorem vx_callv {S SX : Type} {post : S → Prop} {px : SX → Prop} {B : S → State → Prop} {BX : String → SX → State → Prop} {AX : Nat → Prop} (hr : vx_Run p l e R s m args below meth c H locs cells slots mc ms (F0 m pc ls st0) rest (va_Qv post B A1 a) (vx_X px BX AX) free) (hS : va_S A0 H0 H locs) (hA : ∀ q, q < H.size → A1 q → A0 q) (hf : ∀ q, free q → A0 q) (hAX : ∀ q, q < H.size → AX q → A0 q)
    (kx : ∀ (E : String) (ce : Cell) (q9 : Addr) (u : SX) (t : State) (H1 : Heap) (locs1 : List Loc), t.heap = H1 → s.vm.Alike t.vm → px u → BX E u t → H.size ≤ H1.size → (∀ q : Nat, q < H.size → ¬ AX q → H1[q]? = H[q]?) → va_S A0 H0 H1 locs1 → H1[q9]? = some ce → ce.vm = .none → s.vm.findClass E = some ce.cls → vx_W p l e R s m args below meth c H1 locs1 (cells + mc) (slots + ms) Q (F0 m pc ls rest) q9)
    (kk : ∀ (u : S) (t : State) (H1 : Heap) (locs1 : List Loc), t.heap = H1 → s.vm.Alike t.vm → post u → B u t → H.size ≤ H1.size → (∀ q : Nat, q < H.size → ¬ A1 q → H1[q]? = H[q]?) → va_S A0 H0 H1 locs1 → W p l e R s m args below meth c H1 locs1 (cells + mc) (slots + ms) Q (F0 m (pc + 3) ls (rest))) : W p l e R s m args below meth c H locs cells slots Q (F0 m pc ls st0) := by
  intro T hT X
  rcases hr T hT X with ⟨v, st₀, t, T', L, h0, X', hL, e1, e2, ⟨⟨u, hv, hp, hb⟩, hF⟩, st⟩ | ⟨q, st₀, t, T', L, E, ce, h0, X', hL, e1, e2, ⟨u, hp, hb, hF⟩, hce, hcv, hcl, st⟩
  · cases hv
    obtain ⟨k1, k2, k3⟩ := vx_keep h0 e1 hS hA hf hL hF
    obtain ⟨t2, a1, b1⟩ := kk u t T'.heap (locs ++ L) e1.symm (by rw [← e2]; exact X'.warmed.alike) hp hb k1 k2 k3 T' rfl X'
    exact ⟨t2, st t2 a1, b1⟩
  · obtain ⟨k1, k2, k3⟩ := vx_keep h0 e1 hS hAX hf hL hF
    obtain ⟨t2, a1, b1⟩ := kx E ce q u t T'.heap (locs ++ L) e1.symm (by rw [← e2]; exact X'.warmed.alike) hp hb k1 k2 k3 (by rw [e1]; exact hce) hcv hcl T' rfl X'
    exact ⟨t2, st.trans a1, b1⟩
end Rows
section Ends
variable {p : Program} {l : Launch} {e : Env} {R : Room} {s : State} {m : MethodId} {args : Array Value} {below : List Frame} {meth : Method} {c : Code} {H : Heap} {locs : List Loc} {cells slots : Nat} {Q : State → Prop}
variable {mc ms : Nat} {free : Addr → Prop} {A0 A1 : Nat → Prop} {H0 : Heap} {a : Array Value} {ls : Array Slot} {st0 rest : List Value}
variable {Qc : Array Value → State → Outcome → State → Prop} {XC : String → State → State → Prop}
/-- what a body that may throw owes at its end -/
def vx_MQ (below : List Frame) (Qc : Array Value → State → Outcome → State → Prop) (XC : String → State → State → Prop) (a : Array Value) (s : State) (mc ms : Nat) (free : Addr → Prop) : State → Prop := fun t =>
  ∃ o, t.status = .running ∧ Ended t below o ∧ vx_Q Qc XC mc ms free a s o t
theorem vx_ret {g : JFrame} {mc ms : Nat} (k : W p l e R s m args below meth c H locs cells slots (MQ below Qc args s mc ms free) g) : W p l e R s m args below meth c H locs cells slots (vx_MQ below Qc XC args s mc ms free) g := by
  intro T hT X
  obtain ⟨t, a1, o, b1, b2, b3, b4⟩ := k T hT X
  exact ⟨t, a1, o, b1, b2, Or.inl ⟨b3, b4⟩⟩
/-- not caught here: it goes on to the caller -/
theorem vx_widen {g : JFrame} {q : Addr} {k n : Nat} (h1 : cells ≤ k) (h2 : slots ≤ n) (kk : vx_W p l e R s m args below meth c H locs k n Q g q) : vx_W p l e R s m args below meth c H locs cells slots Q g q := fun T hT X => kk T hT (stand_widen X h1 h2)
theorem vx_out {pc : Nat} {E : String} {ce : Cell} {q : Addr} {mc ms : Nat} (hout : ∀ x ∈ c.exceptionTable.toList, covers x pc = false) (hlocks : meth.locks = false) (hcell : H[q]? = some ce) (hv : ce.vm = .none) (hcl : s.vm.findClass E = some ce.cls)
    (hx : ∀ t : State, t.heap = H → s.vm.Alike t.vm → XC E s t) (hf : ∀ z ∈ locs, free z.base) (hc : cells ≤ mc) (hs : slots ≤ ms) :
    vx_W p l e R s m args below meth c H locs cells slots (vx_MQ below Qc XC args s mc ms free) (F0 m pc ls rest) q := by
  intro T hT X
  obtain ⟨st1, hrun, hend, hW, hsm⟩ := X.leaveThrown q (g := F0 m pc ls rest) rfl rfl rfl hout hlocks
  have hcell9 : (T.setFrames (.throwing q :: below)).heap[q]? = some ce := by
    show T.heap[q]? = some ce
    rw [hT]; exact hcell
  exact ⟨_, st1, .threw q, hrun, hend, Or.inr ⟨q, rfl, E, ce, locs, hx _ hT hW.alike, hcell9, hv, hcl, hW, hsm.mono hc hs, hf⟩⟩
theorem vx_frame {U : State} {k n : Nat} (h : s.sameButNew ({ U with vm := s.vm } : State) locs k n) : s.heap.size ≤ U.heap.size ∧ ∀ q : Nat, q < s.heap.size → (∀ z ∈ locs, z.base ≠ q) → U.heap[q]? = s.heap[q]? := by
  obtain ⟨-, h2, -, -, -, h6⟩ := h
  refine ⟨h2, fun q hq hz => ?_⟩
  obtain ⟨c9, e1, e2, e3, e4⟩ := h6 q _ (Array.getElem?_eq_getElem hq)
  have hs : c9.slots = (s.heap[q]).slots := Array.ext_getElem? fun i => e4 i fun hm => hz _ hm rfl
  have h9 : c9 = s.heap[q] := by
    rw [hs] at e2
    exact e2
  have e5 : U.heap[q]? = some c9 := e1
  rw [e5, h9, Array.getElem?_eq_getElem hq]
/-- the words of a throw but the four that speak of the heap -/
def vx_no (w : Cond) : Bool := decide (w ≠ .isRef (.static Bundle.tN "UNASSIGNED_STACK" Bundle.steD)) && decide (w ≠ .isRef (.static Bundle.tN "SUPPRESSED_SENTINEL" Bundle.listD)) && decide (w ≠ .laysStatic Bundle.tN "UNASSIGNED_STACK" Bundle.steD) && decide (w ≠ .laysStatic Bundle.tN "SUPPRESSED_SENTINEL" Bundle.listD)
def vx_at0 (own : String) (ic : Nat) (X : String) (names : List String) : List Cond := (Bundle.ownAtoms0 own ic X names).filter vx_no
def vx_atS (own : String) (ic : Nat) (X : String) (names : List String) : List Cond := (Bundle.ownAtoms own ic X names).filter vx_no
/-- a word that the tables alone decide, or a good one -/
def vx_ot (w : Cond) : Bool := w.onTables || goodWord w
theorem vx_ot_at {args a' : Array Value} {s U : State} {w : Cond} (hW : s.WarmedH U.vm) (hvm : s.vm = U.vm) (hg : vx_ot w = true) (h : w.before args s = true) : w.before a' U = true := by
  simp only [vx_ot, Bool.or_eq_true] at hg
  rcases hg with hg | hg
  · exact va_tabs hg hvm h
  · exact word_at hW (good_of_word hg) h
/-- a list's words: the good ones out of the method's own list, the others by premises of their own -/
theorem vx_hat {args : Array Value} {s : State} {L B : List Cond} (h1 : ∀ w ∈ L.filter goodWord, w.before args s = true) (h2 : ∀ w ∈ L.filter (fun w => !goodWord w), w ∈ B) (h3 : ∀ w ∈ B, w.before args s = true) : ∀ w ∈ L, w.before args s = true := by
  intro w hw
  by_cases g : goodWord w = true
  · exact h1 w (List.mem_filter.mpr ⟨hw, g⟩)
  · refine h3 w (h2 w (List.mem_filter.mpr ⟨hw, ?_⟩))
    show (!goodWord w) = true
    cases hgw : goodWord w
    · rfl
    · exact absurd hgw g
theorem vx_c {args : Array Value} {s : State} {w : Cond} {B : List Cond} (h : w.before args s = true) (t : ∀ w ∈ B, w.before args s = true) : ∀ w' ∈ w :: B, w'.before args s = true := fun w' h' => (List.mem_cons.mp h').elim (fun e => by rw [e]; exact h) (t w')
theorem vx_n {args : Array Value} {s : State} : ∀ w ∈ ([] : List Cond), w.before args s = true := fun _ h => nomatch h
theorem vx_own {args : Array Value} {s : State} {L : List Cond} (h1 : ∀ w ∈ L.filter vx_no, w.before args s = true)
    (hU : (Cond.isRef (.static Bundle.tN "UNASSIGNED_STACK" Bundle.steD)).before args s = true) (hN : (Cond.isRef (.static Bundle.tN "SUPPRESSED_SENTINEL" Bundle.listD)).before args s = true)
    (lU : (Cond.laysStatic Bundle.tN "UNASSIGNED_STACK" Bundle.steD).before args s = true) (lN : (Cond.laysStatic Bundle.tN "SUPPRESSED_SENTINEL" Bundle.listD).before args s = true) : ∀ w ∈ L, w.before args s = true := by
  intro w hw
  by_cases e1 : w = .isRef (.static Bundle.tN "UNASSIGNED_STACK" Bundle.steD)
  · rw [e1]; exact hU
  · by_cases e2 : w = .isRef (.static Bundle.tN "SUPPRESSED_SENTINEL" Bundle.listD)
    · rw [e2]; exact hN
    · by_cases e3 : w = .laysStatic Bundle.tN "UNASSIGNED_STACK" Bundle.steD
      · rw [e3]; exact lU
      · by_cases e4 : w = .laysStatic Bundle.tN "SUPPRESSED_SENTINEL" Bundle.listD
        · rw [e4]; exact lN
        · exact h1 w (List.mem_filter.mpr ⟨hw, by unfold vx_no; rw [decide_eq_true e1, decide_eq_true e2, decide_eq_true e3, decide_eq_true e4]; rfl⟩)
/-- where a static field lies, its class's statics cell in H -/
def vx_L (C n d : String) (A : Nat → Prop) (U : State) (H : Heap) : Prop := ∃ (c : ClassId) (k : Class) (i : Nat) (f : Field) (a : Nat) (cell : Cell), U.vm.findClass C = some c ∧ U.fieldFound? C n d = some (c, k, i, f) ∧ f.isStatic = true ∧ k.statics = some a ∧ H[a]? = some cell ∧ cell.vm.isStatics = true ∧ cell.cls = c ∧ f.slot < cell.slots.size ∧ k.staticTypes[f.slot]? = some f.type ∧ ¬ A a
theorem vx_L.moved {C n d : String} {A : Nat → Prop} {u U : State} {H : Heap} (hvm : u.vm.Alike U.vm) (h : vx_L C n d A u H) : vx_L C n d A U H := by
  obtain ⟨c, k, i, f, a, cell, h1, h2, h3, h4, h5, h6, h7, h8, h9, h10⟩ := h
  obtain ⟨k', hi', he⟩ := State.fieldFound?_setVm hvm h2
  exact ⟨c, k', i, f, a, cell, by rw [hvm.findClass]; exact h1, hi', h3, by rw [he]; exact h4, h5, h6, h7, h8, by rw [he]; exact h9, h10⟩
theorem vx_L.kept {C n d : String} {A : Nat → Prop} {U : State} {H H1 : Heap} (h : vx_L C n d A U H) (hq : ∀ a : Nat, a < H.size → ¬ A a → H1[a]? = H[a]?) : vx_L C n d A U H1 := by
  obtain ⟨c, k, i, f, a, cell, h1, h2, h3, h4, h5, h6, h7, h8, h9, h10⟩ := h
  exact ⟨c, k, i, f, a, cell, h1, h2, h3, h4, by rw [hq a (Array.getElem?_eq_some_iff.mp h5).1 h10]; exact h5, h6, h7, h8, h9, h10⟩
theorem vx_L.narrow {C n d : String} {A B : Nat → Prop} {U : State} {H : Heap} (h : vx_L C n d A U H) (hAB : ∀ q, B q → A q) : vx_L C n d B U H := by
  obtain ⟨c, k, i, f, a, cell, h1, h2, h3, h4, h5, h6, h7, h8, h9, h10⟩ := h
  exact ⟨c, k, i, f, a, cell, h1, h2, h3, h4, h5, h6, h7, h8, h9, fun z => h10 (hAB _ z)⟩
theorem vx_L.word {C n d : String} {A : Nat → Prop} {s : State} {args : Array Value} (h : vx_L C n d A s s.heap) : (Cond.laysStatic C n d).before args s = true := by
  obtain ⟨c, k, i, f, a, cell, h1, h2, h3, h4, h5, h6, h7, h8, h9, -⟩ := h
  show (Cond.laysStatic C n d).holds args s none s [] = true
  exact Cond.laysStatic_of h1 h2 h3 h4 h5 h6 h7 h8 h9
/-- .. and what it holds: null or some reference -/
def vx_Zq (C n d : String) (A : Nat → Prop) (U : State) (H : Heap) : Prop := va_Zq C n d A U H ∧ vx_L C n d A U H
theorem vx_Zq.moved {C n d : String} {A : Nat → Prop} {u U : State} {H : Heap} (hvm : u.vm.Alike U.vm) (h : vx_Zq C n d A u H) : vx_Zq C n d A U H := ⟨va_Zq.moved hvm h.1, vx_L.moved hvm h.2⟩
theorem vx_Zq.kept {C n d : String} {A : Nat → Prop} {U : State} {H H1 : Heap} (h : vx_Zq C n d A U H) (hq : ∀ a : Nat, a < H.size → ¬ A a → H1[a]? = H[a]?) : vx_Zq C n d A U H1 := ⟨va_Zq.kept h.1 hq, vx_L.kept h.2 hq⟩
theorem vx_Zq.narrow {C n d : String} {A B : Nat → Prop} {U : State} {H : Heap} (h : vx_Zq C n d A U H) (hAB : ∀ q, B q → A q) : vx_Zq C n d B U H := ⟨va_Zq.narrow h.1 hAB, vx_L.narrow h.2 hAB⟩
theorem vx_Zqof {args : Array Value} {s : State} {C n d : String} {A : Nat → Prop} (hl : (Cond.laysStatic C n d).before args s = true) (hini : (Cond.initialized C).before args s = true) (h : (Cond.isRef (.static C n d)).before args s = true) (hA : ∀ a : Nat, a < s.heap.size → ¬ A a) : vx_Zq C n d A s s.heap := by
  refine ⟨va_Zqof hl hini h hA, ?_⟩
  obtain ⟨c, k, i, f, a, cell, h1, h2, h3, h4, h5, h6, h7, h8, h9⟩ := Cond.laysStatic_spec hl
  exact ⟨c, k, i, f, a, cell, h1, h2, h3, h4, h5, h6, h7, h8, h9, hA a (Array.getElem?_eq_some_iff.mp h5).1⟩
theorem vx_isRef {C n d : String} {v : Value} {A : Nat → Prop} {s : State} {args : Array Value} (h : va_Z C n d v A s s.heap) (hv : v.isRef = true) : (Cond.isRef (.static C n d)).before args s = true := by
  obtain ⟨cf, kf, fi, f, a, cell, h1, h2, h3, h4, h5, h6, h7, -⟩ := h
  have he : (Term.static C n d).eval args s none [] s = some v := by
    simp [Term.eval, State.fieldNamed?, h1, h2, h4, h5, h6, h7]
  simp only [Cond.before, Cond.holds, Cond.value, he]
  cases v <;> simp_all [Value.isRef]
theorem vx_isRefq {C n d : String} {A : Nat → Prop} {s : State} {args : Array Value} (h : va_Zq C n d A s s.heap) : (Cond.isRef (.static C n d)).before args s = true := by
  rcases h with h | ⟨t, h⟩
  · exact vx_isRef h rfl
  · exact vx_isRef h rfl
/-- the same frame, seen from here: as if the method were called anew in this heap -/
theorem vx_rebase {T : State} (X : Stand p l e R s m args below meth c T locs cells slots) {R' : Room} (hf : R'.frames ≤ R.frames) (hl : R'.locals ≤ R.locals) (hc : cells + R'.cells ≤ R.cells) (hs : slots + R'.slots ≤ R.slots) :
    Stand p l e R' ((T.setVm s.vm).setFrames (.invoking m args :: below)) m args below meth c T [] 0 0 := by
  have htop : (T.setVm s.vm).topJava?.isSome := X.here.top
  have hF : ((T.setVm s.vm).setFrames (.invoking m args :: below)).frames = .invoking m args :: below := State.frames_setFrames _ (State.cur_lt_of_top htop)
  obtain ⟨g₀, hg0⟩ := Option.isSome_iff_exists.mp htop
  obtain ⟨r, hr⟩ := State.topJava?_eq_some.mp hg0
  have hl9 : e.platform.stackLimits (T.setVm s.vm).me = e.platform.stackLimits s.me := X.limits
  have hb9 : (T.setVm s.vm).me.stackBytes = s.me.stackBytes := X.bytes
  refine ⟨X.admits, X.cas, X.clock, hF, ?_, X.hears, X.method, X.code, X.here, X.tail, X.warmed, ?_, ?_, ?_⟩
  · have h := X.room
    have hU : ((T.setVm s.vm).setFrames (.invoking m args :: below)).localsInUse = s.localsInUse := by
      rw [State.localsInUse_invoking hF (meth := meth) (c := c) X.method X.code, State.localsInUse_invoking X.frames X.method X.code]
    simp only [State.hasRoom, Bool.and_eq_true, decide_eq_true_eq] at h ⊢
    obtain ⟨⟨⟨⟨h1, h2, h3, h4, h5, h6⟩, h7⟩, h8⟩, h9⟩ := h
    rw [X.frames, List.length_cons] at h2 h3
    have q1 := X.heapSize
    have q2 := X.used
    simp only [hF, hU, List.length_cons, State.stackLimits_setFrames, State.stackBytes_setFrames, hl9, hb9]
    refine ⟨⟨⟨⟨by omega, by omega, by omega, by omega, by omega, h6⟩, ?_⟩, ?_⟩, X.book⟩
    · show T.heap.size + R'.cells ≤ e.platform.maxCells
      omega
    · show T.slotsUsed + R'.slots ≤ e.platform.maxSlots
      omega
  · rw [State.stackLimits_setFrames]; rfl
  · rw [State.stackBytes_setFrames]; rfl
  · refine ⟨?_, Nat.le_refl _, Nat.le_refl _, ?_, ?_, fun a c9 h9 => ⟨c9, h9, rfl, rfl, fun _ _ => rfl⟩⟩
    · obtain ⟨t, ht, -⟩ := State.frames_cons hr
      show T.setVm s.vm = { ((T.setVm s.vm).setFrames (.invoking m args :: below)).setFrames (T.setVm s.vm).frames with heap := T.heap, slotsUsed := T.slotsUsed }
      rw [State.setFrames_setFrames, State.setFrames_self ht]
      rfl
    · show T.slotsUsed = T.slotsUsed + ((T.heap.toList.drop T.heap.size).map (·.slots.size)).sum
      rw [List.drop_eq_nil_of_le (Nat.le_of_eq Array.length_toList)]
      rfl
    · show ((T.heap.toList.drop T.heap.size).map (·.slots.size)).sum ≤ 0
      rw [List.drop_eq_nil_of_le (Nat.le_of_eq Array.length_toList)]
      exact Nat.le_refl _
/-- 'throw new E()': new; dup; invokespecial; athrow -/
theorem vx_throw0 {cc : ByteArray} {pc : Nat} (hexec : p.tables.exec = Jvm.exec) (hb : c.code = cc) (hl : l.stackTraces = false) {own cls : String} {names : List String} {ik ic mc ms : Nat} {A : Nat → Prop}
    (hown : s.vm.findClass own = some m.cls) (hcls : Bundle.fit cls = true) (hnames : ∀ n ∈ names, Bundle.fit n = true)
    (hk : (Cond.classLink own ik cls).before args s = true) (hini : (Cond.initialized cls).before args s = true) (hat : ∀ w ∈ vx_at0 own ic cls names, w.before args s = true)
    (hgood : ∀ w ∈ Cond.classLink own ik cls :: Cond.initialized cls :: vx_at0 own ic cls names, vx_ot w = true)
    (hU : vx_Zq Bundle.tN "UNASSIGNED_STACK" Bundle.steD A s s.heap) (hN : vx_Zq Bundle.tN "SUPPRESSED_SENTINEL" Bundle.listD A s s.heap) (hS : va_S A s.heap H locs) (hsize : ls.size = c.maxLocals)
    (d0 : decode cc pc = .ok (.new ik, 3)) (d3 : decode cc (pc + 3) = .ok (.dup, 1)) (d4 : decode cc (pc + 4) = .ok (.invokespecial ic, 3)) (d7 : decode cc (pc + 7) = .ok (.athrow, 1))
    (hout : ∀ x ∈ c.exceptionTable.toList, covers x (pc + 7) = false)
    (hRframes : names.length + 3 < R.frames) (hRlocals : (rest.map fun v => v.category).sum + (13 * (names.length + 1) + 42) ≤ R.locals) (hRcells : cells + 1 ≤ R.cells) (hRslots : slots + 6 ≤ R.slots) (hlocks : meth.locks = false)
    (hx : ∀ t : State, s.vm.Alike t.vm → H.size ≤ t.heap.size → (∀ q : Nat, q < H.size → t.heap[q]? = H[q]?) → XC cls s t)
    (hf : ∀ z ∈ locs, free z.base) (hc : cells + 1 ≤ mc) (hs : slots + 6 ≤ ms) :
    W p l e R s m args below meth c H locs cells slots (vx_MQ below Qc XC args s mc ms free) (F0 m pc ls rest) := by
  intro T hT X
  have htr : e.platform.stackTraces = false := (show e.platform.stackTraces = l.stackTraces by rw [X.admits.platform]).trans hl
  have Y := vx_rebase X (R' := { frames := R.frames, locals := R.locals, cells := 1, slots := 6 }) (Nat.le_refl _) (Nat.le_refl _) hRcells hRslots
  obtain ⟨s', hA⟩ : ∃ z, z = (T.setVm s.vm).setFrames (.invoking m args :: below) := ⟨_, rfl⟩
  rw [← hA] at Y
  have hvm : s'.vm = s.vm := by rw [hA]; rfl
  have hhp : s'.heap = H := by rw [hA]; exact hT
  have hW0 : s.WarmedH s'.vm := by rw [hvm]; exact State.WarmedH.refl s
  have hat' : ∀ w ∈ vx_at0 own ic cls names, w.before args s' = true := fun w hw => vx_ot_at hW0 hvm.symm (hgood w (List.mem_cons_of_mem _ (List.mem_cons_of_mem _ hw))) (hat w hw)
  have hk' : (Cond.classLink own ik cls).before args s' = true := vx_ot_at hW0 hvm.symm (hgood _ List.mem_cons_self) hk
  have hini' : (Cond.initialized cls).before args s' = true := vx_ot_at hW0 hvm.symm (hgood _ (List.mem_cons_of_mem _ List.mem_cons_self)) hini
  have hU' : vx_Zq Bundle.tN "UNASSIGNED_STACK" Bundle.steD A s' s'.heap := by rw [hhp]; exact vx_Zq.moved hW0.alike (hU.kept hS.2.1)
  have hN' : vx_Zq Bundle.tN "SUPPRESSED_SENTINEL" Bundle.listD A s' s'.heap := by rw [hhp]; exact vx_Zq.moved hW0.alike (hN.kept hS.2.1)
  have h : ∀ w ∈ Bundle.ownAtoms0 own ic cls names, w.before args s' = true := vx_own hat' (vx_isRefq hU'.1) (vx_isRefq hN'.1) hU'.2.word hN'.2.word
  have hown' : s'.vm.findClass own = some m.cls := by rw [hvm]; exact hown
  have hins : (Cond.instantiable cls 6).before args s' = true := h _ (by simp [Bundle.ownAtoms0])
  obtain ⟨vm₁, cX, kX, hfX, hkX, -, -, X₁, st1⟩ := Y.newCold hexec (own := own) (C := cls) (index := ik) (n := 6) hown' hk' hins hini'
    (g := F0 m pc ls rest) rfl (by rw [hb]; exact d0) (Nat.le_refl _) (Nat.le_refl _)
  generalize hT1 : (T.setVm vm₁).pushCell { cls := cX, slots := kX.instanceTypes.map defaultValue, vm := .none } = T1 at X₁ st1
  have hcat : (Value.ref T.heap.size).category = 1 := rfl
  have hcellA : T1.heap[T.heap.size]? = some (freshCell cX kX) := by rw [← hT1]; exact State.heap_pushCell_size _ _
  have d3' : decode c.code (pc + 3) = .ok (.dup, 1) := by rw [hb]; exact d3
  obtain ⟨U, hsteps, hrun, hend, hW, hsame, ce, hce, hO⟩ := X₁.ctorThrow0 hexec htr (own := own) (cls := cls) (names := names) (ic := ic) hown' hcls hnames h (fun x hx => nomatch hx) hfX hkX hcellA (by rw [hhp, hT]; exact Nat.le_refl _)
    (g := { method := m, pc := pc + 4, locals := ls, stack := .ref T.heap.size :: .ref T.heap.size :: rest, locked := none }) rfl hsize rfl rfl (rest := rest) rfl
    (by rw [hb]; exact d4) (by rw [hb]; exact d7) hout hRframes (by simp only [List.map_cons, List.sum_cons, hcat]; omega) hlocks
  obtain ⟨f1, f2⟩ := vx_frame hsame
  rw [hhp] at f1 f2
  have hWs : s.WarmedH U.vm := State.WarmedH.trans hW0 hW
  have hcl : s.vm.findClass cls = some ce.cls := by
    have h9 := hO.cls
    rw [hvm] at h9
    exact h9
  have hall : s.sameButNew ({ U with vm := s.vm } : State) locs mc ms := by
    subst hA
    obtain ⟨e1, e2⟩ := hsame
    rw [State.setFrames_setFrames] at e1
    have h2 : (T.setVm s.vm).sameButNew ({ U with vm := s.vm } : State) [] (0 + 1) (0 + 6) := ⟨e1, e2⟩
    have h3 := X.same.trans h2
    rw [List.append_nil] at h3
    exact h3.mono hc hs
  refine ⟨U, ?_, .threw T.heap.size, hrun, hend, Or.inr ⟨T.heap.size, rfl, cls, ce, locs, hx U hWs.alike f1 (fun q hq => f2 q hq (fun z hz => nomatch hz)), hce, hO.vm, hcl, hWs, hall, hf⟩⟩
  refine st1 _ ?_
  show Steps p.tables e below (T1.setTop { method := m, pc := pc + 3, locals := ls, stack := .ref T.heap.size :: rest, locked := none }) _
  jvm_step X₁.here [X₁.here.top, hexec, d3', Value.category]
  exact hsteps
/-- 'throw new E("text")': new; dup; ldc; invokespecial; athrow -/
theorem vx_throwS {cc : ByteArray} {pc : Nat} (hexec : p.tables.exec = Jvm.exec) (hb : c.code = cc) (hl : l.stackTraces = false) {own cls text : String} {names : List String} {ik is ic mc ms sa : Nat} {A : Nat → Prop}
    (hown : s.vm.findClass own = some m.cls) (hcls : Bundle.fit cls = true) (hnames : ∀ n ∈ names, Bundle.fit n = true)
    (hk : (Cond.classLink own ik cls).before args s = true) (hini : (Cond.initialized cls).before args s = true) (hstr : vk_R own is text sa s) (hat : ∀ w ∈ vx_atS own ic cls names, w.before args s = true)
    (hgood : ∀ w ∈ Cond.classLink own ik cls :: Cond.initialized cls :: vx_atS own ic cls names, vx_ot w = true)
    (hU : vx_Zq Bundle.tN "UNASSIGNED_STACK" Bundle.steD A s s.heap) (hN : vx_Zq Bundle.tN "SUPPRESSED_SENTINEL" Bundle.listD A s s.heap) (hS : va_S A s.heap H locs) (hsize : ls.size = c.maxLocals)
    (d0 : decode cc pc = .ok (.new ik, 3)) (d3 : decode cc (pc + 3) = .ok (.dup, 1)) (d4 : decode cc (pc + 4) = .ok (.ldc is, 2)) (d6 : decode cc (pc + 6) = .ok (.invokespecial ic, 3)) (d9 : decode cc (pc + 9) = .ok (.athrow, 1))
    (hout : ∀ x ∈ c.exceptionTable.toList, covers x (pc + 9) = false)
    (hRframes : names.length + 3 < R.frames) (hRlocals : (rest.map fun v => v.category).sum + (13 * (names.length + 1) + 43) ≤ R.locals) (hRcells : cells + 1 ≤ R.cells) (hRslots : slots + 6 ≤ R.slots) (hlocks : meth.locks = false)
    (hx : ∀ t : State, s.vm.Alike t.vm → H.size ≤ t.heap.size → (∀ q : Nat, q < H.size → t.heap[q]? = H[q]?) → XC cls s t)
    (hf : ∀ z ∈ locs, free z.base) (hc : cells + 1 ≤ mc) (hs : slots + 6 ≤ ms) :
    W p l e R s m args below meth c H locs cells slots (vx_MQ below Qc XC args s mc ms free) (F0 m pc ls rest) := by
  intro T hT X
  have htr : e.platform.stackTraces = false := (show e.platform.stackTraces = l.stackTraces by rw [X.admits.platform]).trans hl
  have Y := vx_rebase X (R' := { frames := R.frames, locals := R.locals, cells := 1, slots := 6 }) (Nat.le_refl _) (Nat.le_refl _) hRcells hRslots
  obtain ⟨s', hA⟩ : ∃ z, z = (T.setVm s.vm).setFrames (.invoking m args :: below) := ⟨_, rfl⟩
  rw [← hA] at Y
  have hvm : s'.vm = s.vm := by rw [hA]; rfl
  have hhp : s'.heap = H := by rw [hA]; exact hT
  have hW0 : s.WarmedH s'.vm := by rw [hvm]; exact State.WarmedH.refl s
  have hat' : ∀ w ∈ vx_atS own ic cls names, w.before args s' = true := fun w hw => vx_ot_at hW0 hvm.symm (hgood w (List.mem_cons_of_mem _ (List.mem_cons_of_mem _ hw))) (hat w hw)
  have hk' : (Cond.classLink own ik cls).before args s' = true := vx_ot_at hW0 hvm.symm (hgood _ List.mem_cons_self) hk
  have hini' : (Cond.initialized cls).before args s' = true := vx_ot_at hW0 hvm.symm (hgood _ (List.mem_cons_of_mem _ List.mem_cons_self)) hini
  have hU' : vx_Zq Bundle.tN "UNASSIGNED_STACK" Bundle.steD A s' s'.heap := by rw [hhp]; exact vx_Zq.moved hW0.alike (hU.kept hS.2.1)
  have hN' : vx_Zq Bundle.tN "SUPPRESSED_SENTINEL" Bundle.listD A s' s'.heap := by rw [hhp]; exact vx_Zq.moved hW0.alike (hN.kept hS.2.1)
  have h : ∀ w ∈ Bundle.ownAtoms own ic cls names, w.before args s' = true := vx_own hat' (vx_isRefq hU'.1) (vx_isRefq hN'.1) hU'.2.word hN'.2.word
  have hown' : s'.vm.findClass own = some m.cls := by rw [hvm]; exact hown
  have hins : (Cond.instantiable cls 6).before args s' = true := h _ (by simp [Bundle.ownAtoms])
  obtain ⟨vm₁, cX, kX, hfX, hkX, -, -, X₁, st1⟩ := Y.newCold hexec (own := own) (C := cls) (index := ik) (n := 6) hown' hk' hins hini'
    (g := F0 m pc ls rest) rfl (by rw [hb]; exact d0) (Nat.le_refl _) (Nat.le_refl _)
  generalize hT1 : (T.setVm vm₁).pushCell { cls := cX, slots := kX.instanceTypes.map defaultValue, vm := .none } = T1 at X₁ st1
  have hcat : (Value.ref T.heap.size).category = 1 := rfl
  have hcellA : T1.heap[T.heap.size]? = some (freshCell cX kX) := by rw [← hT1]; exact State.heap_pushCell_size _ _
  have d3' : decode c.code (pc + 3) = .ok (.dup, 1) := by rw [hb]; exact d3
  have d4' : decode c.code (pc + 4) = .ok (.ldc is, 2) := by rw [hb]; exact d4
  have hstr' : vk_R own is text sa s' := vk_R.warm hW0 hstr
  obtain ⟨U, hsteps, hrun, hend, hW, hsame, ce, hce, hO⟩ := X₁.ctorThrowS hexec htr (own := own) (cls := cls) (names := names) (ic := ic) hown' hcls hnames h (fun x hx => nomatch hx) hfX hkX hcellA (by rw [hhp, hT]; exact Nat.le_refl _) (msg := .ref sa) rfl
    (g := { method := m, pc := pc + 6, locals := ls, stack := .ref sa :: .ref T.heap.size :: .ref T.heap.size :: rest, locked := none }) rfl hsize rfl rfl (rest := rest) rfl
    (by rw [hb]; exact d6) (by rw [hb]; exact d9) hout hRframes (by simp only [List.map_cons, List.sum_cons, hcat]; omega) hlocks
  obtain ⟨f1, f2⟩ := vx_frame hsame
  rw [hhp] at f1 f2
  have hWs : s.WarmedH U.vm := State.WarmedH.trans hW0 hW
  have hcl : s.vm.findClass cls = some ce.cls := by
    have h9 := hO.cls
    rw [hvm] at h9
    exact h9
  have hall : s.sameButNew ({ U with vm := s.vm } : State) locs mc ms := by
    subst hA
    obtain ⟨e1, e2⟩ := hsame
    rw [State.setFrames_setFrames] at e1
    have h2 : (T.setVm s.vm).sameButNew ({ U with vm := s.vm } : State) [] (0 + 1) (0 + 6) := ⟨e1, e2⟩
    have h3 := X.same.trans h2
    rw [List.append_nil] at h3
    exact h3.mono hc hs
  refine ⟨U, ?_, .threw T.heap.size, hrun, hend, Or.inr ⟨T.heap.size, rfl, cls, ce, locs, hx U hWs.alike f1 (fun q hq => f2 q hq (fun z hz => nomatch hz)), hce, hO.vm, hcl, hWs, hall, hf⟩⟩
  refine st1 _ ?_
  show Steps p.tables e below (T1.setTop { method := m, pc := pc + 3, locals := ls, stack := .ref T.heap.size :: rest, locked := none }) _
  jvm_step X₁.here [X₁.here.top, hexec, d3', Value.category]
  exact X₁.ldcString hexec (own := own) (text := text) (index := is) (a := sa) hown' hstr'.1 hstr'.2
    (g := { method := m, pc := pc + 4, locals := ls, stack := .ref T.heap.size :: .ref T.heap.size :: rest, locked := none }) rfl d4' _ hsteps
/-- 'throw new E("text")', the text by a wide index -/
theorem vx_throwSW {cc : ByteArray} {pc : Nat} (hexec : p.tables.exec = Jvm.exec) (hb : c.code = cc) (hl : l.stackTraces = false) {own cls text : String} {names : List String} {ik is ic mc ms sa : Nat} {A : Nat → Prop}
    (hown : s.vm.findClass own = some m.cls) (hcls : Bundle.fit cls = true) (hnames : ∀ n ∈ names, Bundle.fit n = true)
    (hk : (Cond.classLink own ik cls).before args s = true) (hini : (Cond.initialized cls).before args s = true) (hstr : vk_R own is text sa s) (hat : ∀ w ∈ vx_atS own ic cls names, w.before args s = true)
    (hgood : ∀ w ∈ Cond.classLink own ik cls :: Cond.initialized cls :: vx_atS own ic cls names, vx_ot w = true)
    (hU : vx_Zq Bundle.tN "UNASSIGNED_STACK" Bundle.steD A s s.heap) (hN : vx_Zq Bundle.tN "SUPPRESSED_SENTINEL" Bundle.listD A s s.heap) (hS : va_S A s.heap H locs) (hsize : ls.size = c.maxLocals)
    (d0 : decode cc pc = .ok (.new ik, 3)) (d3 : decode cc (pc + 3) = .ok (.dup, 1)) (d4 : decode cc (pc + 4) = .ok (.ldc_w is, 3)) (d7 : decode cc (pc + 7) = .ok (.invokespecial ic, 3)) (d10 : decode cc (pc + 10) = .ok (.athrow, 1))
    (hout : ∀ x ∈ c.exceptionTable.toList, covers x (pc + 10) = false)
    (hRframes : names.length + 3 < R.frames) (hRlocals : (rest.map fun v => v.category).sum + (13 * (names.length + 1) + 43) ≤ R.locals) (hRcells : cells + 1 ≤ R.cells) (hRslots : slots + 6 ≤ R.slots) (hlocks : meth.locks = false)
    (hx : ∀ t : State, s.vm.Alike t.vm → H.size ≤ t.heap.size → (∀ q : Nat, q < H.size → t.heap[q]? = H[q]?) → XC cls s t)
    (hf : ∀ z ∈ locs, free z.base) (hc : cells + 1 ≤ mc) (hs : slots + 6 ≤ ms) :
    W p l e R s m args below meth c H locs cells slots (vx_MQ below Qc XC args s mc ms free) (F0 m pc ls rest) := by
  intro T hT X
  have htr : e.platform.stackTraces = false := (show e.platform.stackTraces = l.stackTraces by rw [X.admits.platform]).trans hl
  have Y := vx_rebase X (R' := { frames := R.frames, locals := R.locals, cells := 1, slots := 6 }) (Nat.le_refl _) (Nat.le_refl _) hRcells hRslots
  obtain ⟨s', hA⟩ : ∃ z, z = (T.setVm s.vm).setFrames (.invoking m args :: below) := ⟨_, rfl⟩
  rw [← hA] at Y
  have hvm : s'.vm = s.vm := by rw [hA]; rfl
  have hhp : s'.heap = H := by rw [hA]; exact hT
  have hW0 : s.WarmedH s'.vm := by rw [hvm]; exact State.WarmedH.refl s
  have hat' : ∀ w ∈ vx_atS own ic cls names, w.before args s' = true := fun w hw => vx_ot_at hW0 hvm.symm (hgood w (List.mem_cons_of_mem _ (List.mem_cons_of_mem _ hw))) (hat w hw)
  have hk' : (Cond.classLink own ik cls).before args s' = true := vx_ot_at hW0 hvm.symm (hgood _ List.mem_cons_self) hk
  have hini' : (Cond.initialized cls).before args s' = true := vx_ot_at hW0 hvm.symm (hgood _ (List.mem_cons_of_mem _ List.mem_cons_self)) hini
  have hU' : vx_Zq Bundle.tN "UNASSIGNED_STACK" Bundle.steD A s' s'.heap := by rw [hhp]; exact vx_Zq.moved hW0.alike (hU.kept hS.2.1)
  have hN' : vx_Zq Bundle.tN "SUPPRESSED_SENTINEL" Bundle.listD A s' s'.heap := by rw [hhp]; exact vx_Zq.moved hW0.alike (hN.kept hS.2.1)
  have h : ∀ w ∈ Bundle.ownAtoms own ic cls names, w.before args s' = true := vx_own hat' (vx_isRefq hU'.1) (vx_isRefq hN'.1) hU'.2.word hN'.2.word
  have hown' : s'.vm.findClass own = some m.cls := by rw [hvm]; exact hown
  have hins : (Cond.instantiable cls 6).before args s' = true := h _ (by simp [Bundle.ownAtoms])
  obtain ⟨vm₁, cX, kX, hfX, hkX, -, -, X₁, st1⟩ := Y.newCold hexec (own := own) (C := cls) (index := ik) (n := 6) hown' hk' hins hini'
    (g := F0 m pc ls rest) rfl (by rw [hb]; exact d0) (Nat.le_refl _) (Nat.le_refl _)
  generalize hT1 : (T.setVm vm₁).pushCell { cls := cX, slots := kX.instanceTypes.map defaultValue, vm := .none } = T1 at X₁ st1
  have hcat : (Value.ref T.heap.size).category = 1 := rfl
  have hcellA : T1.heap[T.heap.size]? = some (freshCell cX kX) := by rw [← hT1]; exact State.heap_pushCell_size _ _
  have d3' : decode c.code (pc + 3) = .ok (.dup, 1) := by rw [hb]; exact d3
  have d4' : decode c.code (pc + 4) = .ok (.ldc_w is, 3) := by rw [hb]; exact d4
  have hstr' : vk_R own is text sa s' := vk_R.warm hW0 hstr
  obtain ⟨U, hsteps, hrun, hend, hW, hsame, ce, hce, hO⟩ := X₁.ctorThrowS hexec htr (own := own) (cls := cls) (names := names) (ic := ic) hown' hcls hnames h (fun x hx => nomatch hx) hfX hkX hcellA (by rw [hhp, hT]; exact Nat.le_refl _) (msg := .ref sa) rfl
    (g := { method := m, pc := pc + 7, locals := ls, stack := .ref sa :: .ref T.heap.size :: .ref T.heap.size :: rest, locked := none }) rfl hsize rfl rfl (rest := rest) rfl
    (by rw [hb]; exact d7) (by rw [hb]; exact d10) hout hRframes (by simp only [List.map_cons, List.sum_cons, hcat]; omega) hlocks
  obtain ⟨f1, f2⟩ := vx_frame hsame
  rw [hhp] at f1 f2
  have hWs : s.WarmedH U.vm := State.WarmedH.trans hW0 hW
  have hcl : s.vm.findClass cls = some ce.cls := by
    have h9 := hO.cls
    rw [hvm] at h9
    exact h9
  have hall : s.sameButNew ({ U with vm := s.vm } : State) locs mc ms := by
    subst hA
    obtain ⟨e1, e2⟩ := hsame
    rw [State.setFrames_setFrames] at e1
    have h2 : (T.setVm s.vm).sameButNew ({ U with vm := s.vm } : State) [] (0 + 1) (0 + 6) := ⟨e1, e2⟩
    have h3 := X.same.trans h2
    rw [List.append_nil] at h3
    exact h3.mono hc hs
  refine ⟨U, ?_, .threw T.heap.size, hrun, hend, Or.inr ⟨T.heap.size, rfl, cls, ce, locs, hx U hWs.alike f1 (fun q hq => f2 q hq (fun z hz => nomatch hz)), hce, hO.vm, hcl, hWs, hall, hf⟩⟩
  refine st1 _ ?_
  show Steps p.tables e below (T1.setTop { method := m, pc := pc + 3, locals := ls, stack := .ref T.heap.size :: rest, locked := none }) _
  jvm_step X₁.here [X₁.here.top, hexec, d3', Value.category]
  exact X₁.ldcStringW hexec (own := own) (text := text) (index := is) (a := sa) hown' hstr'.1 hstr'.2
    (g := { method := m, pc := pc + 4, locals := ls, stack := .ref T.heap.size :: .ref T.heap.size :: rest, locked := none }) rfl d4' _ hsteps
end Ends
section Bodies
variable {l : Launch}
theorem vx_ofW {y : MethodName} {ws ws' : List Cond} {rm : Room} {Pc : Array Value → State → Prop} {Qc : Array Value → State → Outcome → State → Prop} {XC : String → State → State → Prop} {mc ms : Nat} {free : Addr → Prop} {cc : ByteArray} {maxL : Nat} {ret : Option FieldType}
    (hy : plainName y.cls = true) (hw : ws = Cond.code y cc maxL ret :: ws')
    (body : ∀ p e s m args below meth c s₁, BodyLoose p l y (headSpec ws rm) cc maxL ret e s m args below meth c s₁ → c.maxLocals = maxL → (∀ x ∈ c.exceptionTable.toList, False) → Pc args s →
      W p l e (headSpec ws rm).room s m args below meth c s.heap [] 0 0 (vx_MQ below Qc XC args s mc ms free) (entryFrame m args maxL)) : vx_Met l y ws rm Pc Qc XC mc ms free := by
  refine MetFree.of_bodyS (code := cc) (maxLocals := maxL) (ret := ret) hy ?_ ?_
  · intro args s m h hn
    obtain ⟨meth, c, h1, h2, h3, h4, h5, h6, -, -⟩ := Cond.code_spec hn (atoms_spec (ws := ws) h _ (by rw [hw]; exact List.mem_cons_self))
    exact ⟨meth, c, h1, h2, h3, h4, h5, h6⟩
  · intro p e s m args below meth c s₁ B hml hP _
    have hh0 : s₁.heap = s.heap := by rw [B.state]; rfl
    have ht : ∀ x ∈ c.exceptionTable.toList, False := by
      obtain ⟨meth9, c9, h1, h2, -, -, -, -, h7, -⟩ := Cond.code_spec B.named (atoms_spec (ws := ws) B.pre _ (by rw [hw]; exact List.mem_cons_self))
      cases Option.some.inj (h1.symm.trans B.method)
      cases Option.some.inj (h2.symm.trans (Stand.of_body B).code)
      intro x hx
      rw [Array.isEmpty_iff.mp h7] at hx
      cases hx
    obtain ⟨t, a1, o, b1, b2, b3⟩ := body p e s m args below meth c s₁ B hml ht hP s₁ hh0 (Stand.of_body B)
    exact ⟨t, o, a1, b1, b2, b3⟩
/-- the table of a body with handlers -/
theorem vx_table {p : Program} {x y : MethodName} {S : Spec} {cc bytes : ByteArray} {maxL maxL' : Nat} {ret ret' : Option FieldType} {e : Env} {s s₁ : State} {m : MethodId} {args : Array Value} {below : List Frame} {meth : Method} {c : Code} {hh : List (Nat × Nat × Nat × Nat)}
    (B : BodyLoose p l y S cc maxL ret e s m args below meth c s₁) (h : (Cond.codeWith y bytes maxL' ret' hh).before args s = true) : c.exceptionTable.toList = tableOf hh := by
  obtain ⟨m9, meth9, c9, hn9, h1, h2, -, -, h6, -⟩ := Cond.codeWith_spec h
  cases Option.some.inj (hn9.symm.trans B.named)
  cases Option.some.inj (h1.symm.trans B.method)
  cases Option.some.inj (h2.symm.trans (Stand.of_body B).code)
  rw [← h6, table_eq]
end Bodies
end VXA
/-! ===== END ===== -/
/-! ===== BEGIN a static call of a method with an exception table ===== -/
section VXS
variable {p : Program} {l : Launch} {e : Env} {R : Room} {s : State} {m : MethodId} {args : Array Value} {below : List Frame} {meth : Method} {c : Code} {T : State} {H : Heap} {locs : List Loc} {cells slots : Nat}
abbrev vx_CSW (R : Room) (s : State) (args : Array Value) (own : String) (index : Nat) (y : MethodName) (bytes : ByteArray) (maxL : Nat) (ret : Option FieldType) (hh : List (Nat × Nat × Nat × Nat)) (ws : List Cond) (rm : Room) (mc ms n : Nat) : Prop :=
  (rm.cells = mc ∧ rm.slots = ms ∧ rm.frames + 1 ≤ R.frames ∧ 8 + (maxL + 11) + rm.locals ≤ R.locals ∧ (∀ w ∈ ws, ∀ (a' : Array Value) (U : State), s.WarmedH U.vm → w.before a' U = true) ∧ Cond.codeWith y bytes maxL ret hh ∈ ws) ∧
  (Cond.codeWith y bytes maxL ret hh).before args s = true ∧ (Cond.initialized y.cls).before args s = true ∧ (y.cls ≠ "java/lang/invoke/MethodHandle" ∧ y.cls ≠ "java/lang/invoke/VarHandle") ∧
  (∀ sig, parseMethodDescriptor y.desc = some sig → n = sig.parameters.length) ∧ (Cond.methodLink own index y).before args s = true ∧ (Cond.static y).before args s = true
theorem vx_cwSW {own : String} {index maxL mc ms : Nat} {y : MethodName} {bytes : ByteArray} {ret : Option FieldType} {hh : List (Nat × Nat × Nat × Nat)} {Ts ws ws' : List Cond} {rm : Room} (n : Nat) (ht : ∀ w ∈ Ts, w.before args s = true) (hT : GoodIn Ts (va_wsS own index y ws)) (hw : ws = Cond.codeWith y bytes maxL ret hh :: ws') (hrc : rm.cells = mc) (hrs : rm.slots = ms)
    (hd : y.cls ≠ "java/lang/invoke/MethodHandle" ∧ y.cls ≠ "java/lang/invoke/VarHandle" ∧ (parseMethodDescriptor y.desc).map (fun d => d.parameters.length) = some n) (hR : rm.frames + 1 ≤ R.frames ∧ 8 + (maxL + 11) + rm.locals ≤ R.locals) :
    vx_CSW R s args own index y bytes maxL ret hh ws rm mc ms n := by
  have ok : ∀ w ∈ va_wsS own index y ws, w.before args s = true := fun w h => ht w (hT w h).1
  have hG : GoodIn Ts ws := fun w h => hT w (by unfold va_wsS; exact List.mem_append_right _ h)
  have hc : Cond.codeWith y bytes maxL ret hh ∈ ws := by rw [hw]; exact List.mem_cons_self
  refine ⟨⟨hrc, hrs, hR.1, hR.2, pay_in ht hG, hc⟩, ht _ (hG _ hc).1, ok _ (by simp [va_wsS]), ⟨hd.1, hd.2.1⟩, fun sig h => ?_, ok _ (by simp [va_wsS]), ok _ (by simp [va_wsS])⟩
  have h2 := hd.2.2
  rw [h] at h2
  exact (Option.some.inj h2).symm
theorem vx_callSW (X : Stand p l e R s m args below meth c T locs cells slots) (hexec : p.tables.exec = Jvm.exec) {own : String} {index : Nat} {y : MethodName} {bytes : ByteArray} {maxL : Nat} {ret : Option FieldType} {hh : List (Nat × Nat × Nat × Nat)}
    (hown : s.vm.findClass own = some m.cls) (hlink : (Cond.methodLink own index y).before args s = true) (hstat : (Cond.static y).before args s = true) (hinit : (Cond.initialized y.cls).before args s = true)
    (hcode : (Cond.codeWith y bytes maxL ret hh).before args s = true) (hy : y.cls ≠ "java/lang/invoke/MethodHandle" ∧ y.cls ≠ "java/lang/invoke/VarHandle")
    {W9 : Nat} {Pre : Pt → Array Value → Prop} {Post : Pt → Array Value → Option Value → Pt → Prop} (hK : Back l R p e below s args y 3 W9 Pre Post)
    {g : JFrame} (hg : g.method = m) (hsize : g.locals.size = c.maxLocals) {argsL rest : List Value} (hlen : ∀ sig, parseMethodDescriptor y.desc = some sig → argsL.length = sig.parameters.length)
    (hstack : g.stack = argsL.reverse ++ rest) (hW : 2 * g.monitorRoom + (rest.map fun v => v.category).sum ≤ W9) (hdg : decode c.code g.pc = .ok (.invokestatic index, 3))
    (hpre : ∀ vm₁, s.WarmedH vm₁ → Pre ⟨T.setVm vm₁, locs, cells, slots⟩ argsL.toArray) :
    ∃ (v : Option Value) (vm₁ : Vm) (B : Pt), s.WarmedH vm₁ ∧ Stand p l e R s m args below meth c B.U B.locs B.cells B.slots ∧ Post ⟨T.setVm vm₁, locs, cells, slots⟩ argsL.toArray v B ∧
      ∀ target, Steps p.tables e below (B.U.setTop { g with pc := g.pc + 3, stack := v.toList ++ rest }) target → Steps p.tables e below (T.setTop g) target := by
  obtain ⟨mk, methM, cM, hnamed, hmethM, -, -, -, -, -, -, hsigM⟩ := Cond.codeWith_spec hcode
  have hstatic : methM.isStatic = true := Cond.static_spec hnamed hmethM hstat
  obtain ⟨kP, hkP, -⟩ := className_of_methodNamed hnamed
  have hinitP : kP.init = .initialized := Cond.initialized_spec (findClass_of_methodNamed hnamed) hkP hinit
  obtain ⟨vm₁, X₁, hstep₁⟩ := X.invokestatic hexec hown hlink hnamed hmethM hstatic hkP hinitP hy (g := g) hg (argsL := argsL) (rest := rest) (hlen _ hsigM) hstack hdg
  obtain ⟨v, B, X', hpost, hsteps⟩ := hK m meth c ⟨T.setVm vm₁, locs, cells, slots⟩ { g with stack := rest } (.invokestatic index) mk argsL.toArray X₁ hg hsize hdg hW (X₁.named hnamed) (hpre vm₁ X₁.warmed)
  exact ⟨v, vm₁, B, X₁.warmed, X', hpost, fun target h => hstep₁ _ fun acts => by rw [doInvoke_state]; exact hsteps.trans h⟩
theorem vx_runSW {y : MethodName} {bytes cc : ByteArray} {maxL nL mc ms n index : Nat} {ret : Option FieldType} {hh : List (Nat × Nat × Nat × Nat)} {ws : List Cond} {rm : Room} {Pc : Array Value → State → Prop} {Qc : Array Value → State → Outcome → State → Prop} {free : Addr → Prop} {Ts : List Cond} {own : String} {As rest : List Value} {g : JFrame}
    (S : CallFix p m c cc nL s args Ts own) (hM : Met l y ws rm Pc Qc mc ms free) (cw : vx_CSW R s args own index y bytes maxL ret hh ws rm mc ms n) (hp : PreS s H Pc As)
    (hg : g.method = m) (hn : As.length = n) (hsize : g.locals.size = nL) (hstack : g.stack = As.reverse ++ rest) (hW : 2 * g.monitorRoom + (rest.map fun v => v.category).sum ≤ 8) (hdg : decode cc g.pc = .ok (.invokestatic index, 3)) (hf : cells + mc ≤ R.cells ∧ slots + ms ≤ R.slots) :
    va_Run p l e R s m args below meth c H locs cells slots mc ms g rest (Qc As.toArray) (free) := by
  obtain ⟨⟨hrc, hrs, hfr, hlo, hws, hcw⟩, hcode, hini, hy, hlen, hl, hstt⟩ := cw
  have hK : Back l R p e below s args y 3 8 (PreOf R mc ms Pc) (PostOf Qc mc ms free) := va_backW (hh := hh) (bytes := bytes) (maxL := maxL) (ret := ret) hM hp.1 hrc hrs hfr hlo hws hcw (fun a' U hW => word_at hW (Or.inl (by first | rfl | simp [Cond.onTables, Cond.keeps, Cond.steady])) hini)
  obtain ⟨hx, hb, hml, ho, -⟩ := S
  intro T hT X
  obtain ⟨v, vm₁, ⟨U', l2, c2, s2⟩, hW₁, X', ⟨g', mk, t, L, e1, e2, hq, h1, hL, h2, h3⟩, st⟩ := vx_callSW X hx (hh := hh) (bytes := bytes) (maxL := maxL) (ret := ret) ho hl hstt hini hcode hy hK hg (hsize.trans hml.symm) (argsL := As) (rest := rest) (fun sig h => hn.trans (hlen sig h)) hstack hW (by rw [hb]; exact hdg)
    (fun vm₁ hW₁ => ⟨hf.1, hf.2, hp.2 (T.setVm vm₁) hT hW₁⟩)
  dsimp only [Pt.U, Pt.locs, Pt.cells, Pt.slots] at X' e1 e2 h1 h2 h3 st
  subst h1; subst h2; subst h3
  exact ⟨v, (T.setVm vm₁).calling g' mk As.toArray, t, U', L, hT, X', hL, e1, e2, hq, st⟩
/-- a thing of a world lies in the heap -/
theorem vx_lt {D : va_G} {cl : List vw_C} {ws : va_W} {H1 : Heap} (h : va_P D cl ws H1) {k : Nat} {q : Nat × va_E} (hk : ws[k]? = some q) : q.1 < H1.size := (h k q hk).lt
end VXS
/-! ===== END ===== -/
/-! ===== BEGIN methods with a table of their own: called by a name, returning or throwing ===== -/
section VXH
/-! vx_backW, vx_callVX, vx_callSX, vx_callVW, vx_runVW, vx_runVX, vx_runSX, vx_ofWH follow the same proofs as their sisters above (Free/Laws.lean, Shelf42/LK1.lean); vx_outP calls Shelf42/NT130.lean (outThrough). -/
section
variable {l : Launch} {R : Room} {p : Program} {e : Env} {below : List Frame} {s : State} {sargs : Array Value} {y : MethodName} {len W9 : Nat}
theorem vx_backW {ws : List Cond} {rm : Room} {Pc : Array Value → State → Prop} {Qc : Array Value → State → Outcome → State → Prop} {XC : String → State → State → Prop} {mc ms : Nat} {free : Addr → Prop} {bytes : ByteArray} {maxL : Nat} {ret : Option FieldType} {hh : List (Nat × Nat × Nat × Nat)}
    (hM : vx_Met l y ws rm Pc Qc XC mc ms free) (hblind : FrameBlind Pc) (hrc : rm.cells = mc) (hrs : rm.slots = ms)
    (hframes : rm.frames + 1 ≤ R.frames) (hlocals : W9 + (maxL + 11) + rm.locals ≤ R.locals)
    (hws : ∀ w ∈ ws, ∀ a' U, s.WarmedH U.vm → w.before a' U = true) (hcode : Cond.codeWith y bytes maxL ret hh ∈ ws) (hinit : ∀ a' U, s.WarmedH U.vm → (Cond.initialized y.cls).before a' U = true) :
    vx_Back l R p e below s sargs y len W9 (PreOf R mc ms Pc) (PostOf Qc mc ms free) (vx_Post XC mc ms free) := by
  intro m meth c A g ig mk a X hg hsize hdg hW hn hp
  have h1 : (headSpec ws rm).pre.before a A.U = true := atoms_intro fun w hw => hws w hw _ _ X.warmed
  have h2 : (Cond.codeWith y bytes maxL ret hh).before a A.U = true := hws _ hcode _ _ X.warmed
  have h3 : (Cond.initialized y.cls).before a A.U = true := hinit _ _ X.warmed
  have h4 : A.cells + (headSpec ws rm).room.cells ≤ R.cells := by rw [show (headSpec ws rm).room.cells = mc from hrc]; exact hp.1
  have h5 : A.slots + (headSpec ws rm).room.slots ≤ R.slots := by rw [show (headSpec ws rm).room.slots = ms from hrs]; exact hp.2.1
  have hPc : Pc a (A.U.calling g mk a) := hblind _ _ _ _ hp.2.2
  obtain ⟨U, Ls, c0, s0⟩ := A
  dsimp only [Pt.U, Pt.locs, Pt.cells, Pt.slots] at h1 h2 h3 h4 h5 X hn hPc ⊢
  obtain ⟨m9, methY, cY, hn9, hmY, hcY, -, hlY, -⟩ := Cond.codeWith_spec h2
  cases Option.some.inj (hn9.symm.trans hn)
  obtain ⟨kY, hkY, -⟩ := className_of_methodNamed hn
  have hinitY : kY.init = .initialized := Cond.initialized_spec (findClass_of_methodNamed hn) hkY h3
  have h : At U g.method c below := by rw [hg]; exact X.here
  have hlocals9 : W9 + (maxL + 11) + (headSpec ws rm).room.locals ≤ R.locals := hlocals
  have happ : (headSpec ws rm).appliesLoose y e.platform (U.calling g mk a) = true :=
    Spec.appliesLoose_calling (g := g) h hdg hn hkY hinitY
      (X.room_calling (g := g) (R' := (headSpec ws rm).room) hsize hmY hcY hframes (by rw [hlY]; omega) h4 h5) h1
  obtain ⟨mid, hmid⟩ := h.above
  have hfr : (U.setTop g).frames = (.java g :: mid) ++ below := by rw [State.frames_setTop' g h.top, hmid]; rfl
  obtain ⟨o, s₂, hsteps, -, hend, hq⟩ := Steps.callFree hM p X.admits X.cas X.clock (acts := []) hfr happ hPc trivial
  have hq' : vx_Q Qc XC mc ms free a (U.calling g mk a) o s₂ := hq
  rw [State.frames_setTop' g h.top] at hend
  obtain ⟨g₀, hg0⟩ := Option.isSome_iff_exists.mp h.top
  obtain ⟨r, hr⟩ := State.topJava?_eq_some.mp hg0
  have hr' : (({ U with heap := s₂.heap, slotsUsed := s₂.slotsUsed } : State).setVm s₂.vm).frames = .java g₀ :: r := hr
  rcases hq' with ⟨hqc, L, hfe, hL⟩ | ⟨q, rfl, E, ce, L, hx, hce, hcv, hcl, hW₂, hsm, hL⟩
  · obtain ⟨⟨v, rfl⟩, hW₂, e2, q2, q3, q4, q5, q6⟩ := id hfe
    have e3 : s₂ = ({ (U.calling g mk a).setFrames s₂.frames with heap := s₂.heap, slotsUsed := s₂.slotsUsed } : State).setVm s₂.vm := by
      have : s₂ = ({ s₂ with vm := (U.calling g mk a).vm } : State).setVm s₂.vm := rfl
      rw [e2] at this
      exact this
    obtain ⟨c₂, i₂, len₂, hc₂, hd₂, hf₂⟩ := hend
    have hW' : U.WarmedH s₂.vm := hW₂
    have hcc : c₂ = c := by
      have h1 : s₂.code? g.method = U.code? g.method := by
        rw [State.code?_eq, State.code?_eq, hW'.alike.method?]
      exact Option.some.inj (hc₂.symm.trans (h1.trans h.code))
    subst hcc
    have hlen : len₂ = len := by rw [hdg] at hd₂; cases hd₂; rfl
    subst hlen
    have hs₂ : s₂ = (({ U with heap := s₂.heap, slotsUsed := s₂.slotsUsed } : State).setVm s₂.vm).setTop { g with pc := g.pc + len₂, stack := v.toList ++ g.stack } := by
      refine e3.trans ?_
      rw [hf₂, State.calling_eq h.top, State.setFrames_setFrames, State.setTop_of_frames _ hr', hr]
      rfl
    have hsame : U.sameButNew ({ U with heap := s₂.heap, slotsUsed := s₂.slotsUsed } : State) L mc ms := by
      refine ⟨?_, q2, q3, q4, q5, q6⟩
      obtain ⟨t, ht, -⟩ := State.frames_cons hr
      show ({ U with heap := s₂.heap, slotsUsed := s₂.slotsUsed } : State) = { U.setFrames U.frames with heap := s₂.heap, slotsUsed := s₂.slotsUsed }
      rw [State.setFrames_self ht]
    subst hg
    refine Or.inl ⟨v, ⟨(({ U with heap := s₂.heap, slotsUsed := s₂.slotsUsed } : State).setVm s₂.vm), Ls ++ L, c0 + mc, s0 + ms⟩,
      ⟨X.admits, X.cas, X.clock, X.frames, X.room, X.hears, X.method, X.code, (X.here.setHeapUsed s₂.heap s₂.slotsUsed).setVm hW'.alike, X.tail, State.WarmedH.trans X.warmed hW', X.limits, X.bytes, X.same.trans (hsame.setVm s.vm)⟩,
      ⟨g, mk, s₂, L, rfl, rfl, hqc, rfl, hL, rfl, rfl⟩, ?_⟩
    show Steps p.tables e below _ ((({ U with heap := s₂.heap, slotsUsed := s₂.slotsUsed } : State).setVm s₂.vm).setTop { g with pc := g.pc + len₂, stack := v.toList ++ g.stack })
    rw [← hs₂]
    exact hsteps
  · obtain ⟨e2, q2, q3, q4, q5, q6⟩ := id hsm
    have e3 : s₂ = ({ (U.calling g mk a).setFrames s₂.frames with heap := s₂.heap, slotsUsed := s₂.slotsUsed } : State).setVm s₂.vm := by
      have : s₂ = ({ s₂ with vm := (U.calling g mk a).vm } : State).setVm s₂.vm := rfl
      rw [e2] at this
      exact this
    have hf₂ : s₂.frames = .throwing q :: .java g :: U.frames.tail := hend
    have hW' : U.WarmedH s₂.vm := hW₂
    have hs₂ : s₂ = ((({ U with heap := s₂.heap, slotsUsed := s₂.slotsUsed } : State).setVm s₂.vm).setTop g).pushFrame (.throwing q) := by
      refine e3.trans ?_
      rw [hf₂, State.calling_eq h.top, State.setFrames_setFrames, State.pushFrame, State.frames_setTop _ hr', State.setTop_of_frames _ hr', State.setFrames_setFrames, hr]
      rfl
    have hsame : U.sameButNew ({ U with heap := s₂.heap, slotsUsed := s₂.slotsUsed } : State) L mc ms := by
      refine ⟨?_, q2, q3, q4, q5, q6⟩
      obtain ⟨t, ht, -⟩ := State.frames_cons hr
      show ({ U with heap := s₂.heap, slotsUsed := s₂.slotsUsed } : State) = { U.setFrames U.frames with heap := s₂.heap, slotsUsed := s₂.slotsUsed }
      rw [State.setFrames_self ht]
    subst hg
    refine Or.inr ⟨q, ⟨(({ U with heap := s₂.heap, slotsUsed := s₂.slotsUsed } : State).setVm s₂.vm), Ls ++ L, c0 + mc, s0 + ms⟩,
      ⟨X.admits, X.cas, X.clock, X.frames, X.room, X.hears, X.method, X.code, (X.here.setHeapUsed s₂.heap s₂.slotsUsed).setVm hW'.alike, X.tail, State.WarmedH.trans X.warmed hW', X.limits, X.bytes, X.same.trans (hsame.setVm s.vm)⟩,
      ⟨g, mk, s₂, L, E, ce, rfl, rfl, hx, hce, hcv, hcl, rfl, hL, rfl, rfl⟩, ?_⟩
    show Steps p.tables e below _ (((({ U with heap := s₂.heap, slotsUsed := s₂.slotsUsed } : State).setVm s₂.vm).setTop g).pushFrame (.throwing q))
    rw [← hs₂]
    exact hsteps
end
variable {p : Program} {l : Launch} {e : Env} {R : Room} {s : State} {m : MethodId} {args : Array Value} {below : List Frame} {meth : Method} {c : Code} {T : State} {H : Heap} {locs : List Loc} {cells slots : Nat}
theorem vx_callVX (X : Stand p l e R s m args below meth c T locs cells slots) (hexec : p.tables.exec = Jvm.exec) {own C : String} {index : Nat} {y : MethodName} {bytes : ByteArray} {maxL : Nat} {ret : Option FieldType} {hh : List (Nat × Nat × Nat × Nat)}
    (hown : s.vm.findClass own = some m.cls) (hlink : (Cond.methodLink own index y).before args s = true) (hinst : (Cond.instanceMethod y).before args s = true) (hsel : (Cond.selects C y y).before args s = true)
    (hcode : (Cond.codeWith y bytes maxL ret hh).before args s = true) (hy : y.cls ≠ "java/lang/invoke/MethodHandle" ∧ y.cls ≠ "java/lang/invoke/VarHandle")
    {W9 : Nat} {Pre : Pt → Array Value → Prop} {Post : Pt → Array Value → Option Value → Pt → Prop} {PostX : Pt → Array Value → Addr → Pt → Prop} (hK : vx_Back l R p e below s args y 3 W9 Pre Post PostX)
    {b : Addr} {cellB : Cell} (hcell : T.heap[b]? = some cellB) (hobj : cellB.vm.isStatics = false) (hcls : s.vm.findClass C = some cellB.cls)
    {g : JFrame} (hg : g.method = m) (hsize : g.locals.size = c.maxLocals) {argsL rest : List Value} (hlen : ∀ sig, parseMethodDescriptor y.desc = some sig → argsL.length = sig.parameters.length)
    (hstack : g.stack = argsL.reverse ++ .ref b :: rest) (hW : 2 * g.monitorRoom + (rest.map fun v => v.category).sum ≤ W9) (hdg : decode c.code g.pc = .ok (.invokevirtual index, 3))
    (hpre : ∀ vm₁, s.WarmedH vm₁ → Pre ⟨T.setVm vm₁, locs, cells, slots⟩ (Value.ref b :: argsL).toArray) :
    (∃ (v : Option Value) (vm₁ : Vm) (B : Pt), s.WarmedH vm₁ ∧ Stand p l e R s m args below meth c B.U B.locs B.cells B.slots ∧ Post ⟨T.setVm vm₁, locs, cells, slots⟩ (Value.ref b :: argsL).toArray v B ∧
      ∀ target, Steps p.tables e below (B.U.setTop { g with pc := g.pc + 3, stack := v.toList ++ rest }) target → Steps p.tables e below (T.setTop g) target) ∨
    (∃ (q : Addr) (vm₁ : Vm) (B : Pt), s.WarmedH vm₁ ∧ Stand p l e R s m args below meth c B.U B.locs B.cells B.slots ∧ PostX ⟨T.setVm vm₁, locs, cells, slots⟩ (Value.ref b :: argsL).toArray q B ∧
      Steps p.tables e below (T.setTop g) ((B.U.setTop { g with stack := rest }).pushFrame (.throwing q))) := by
  obtain ⟨mk, methM, hnamed, hmethM, hstM, habM⟩ := Cond.instanceMethod_spec hinst
  obtain ⟨m8, methM', cM, hn8, hmethM', -, -, -, -, -, -, hsigM⟩ := Cond.codeWith_spec hcode
  cases Option.some.inj (hn8.symm.trans hnamed)
  cases hmethM.symm.trans hmethM'
  obtain ⟨c2, r2, m2, q1, q2, q3, q4, kP, hkP, hkPi⟩ := Cond.selects_spec hsel
  cases hcls.symm.trans q1
  cases (State.methodFound?_of_named hnamed hy).symm.trans q2
  cases hnamed.symm.trans q3
  have hselP : selectMethod e.platform s.vm cellB.cls mk = .method mk := by rw [Launch.admits_selectMethod X.admits]; exact q4
  obtain ⟨vm₁, X₁, hstep₁⟩ := X.invokevirtual hexec hown hlink hnamed hmethM hstM hkP hkPi hy (a := b) (cell := cellB) hcell
    (fun z h => by rw [h] at hobj; cases hobj) hselP hmethM habM hkP hkPi (g := g) hg (argsL := argsL) (rest := rest) (hlen _ hsigM) hstack hdg
  rcases hK m meth c ⟨T.setVm vm₁, locs, cells, slots⟩ { g with stack := rest } (.invokevirtual index) mk (Value.ref b :: argsL).toArray X₁ hg hsize hdg hW (X₁.named hnamed) (hpre vm₁ X₁.warmed) with ⟨v, B, X', hpost, hsteps⟩ | ⟨q, B, X', hpost, hsteps⟩
  · exact Or.inl ⟨v, vm₁, B, X₁.warmed, X', hpost, fun target h => hstep₁ _ fun acts => by rw [doInvoke_state]; exact hsteps.trans h⟩
  · exact Or.inr ⟨q, vm₁, B, X₁.warmed, X', hpost, hstep₁ _ fun acts => by rw [doInvoke_state]; exact hsteps⟩
theorem vx_callSX (X : Stand p l e R s m args below meth c T locs cells slots) (hexec : p.tables.exec = Jvm.exec) {own : String} {index : Nat} {y : MethodName} {bytes : ByteArray} {maxL : Nat} {ret : Option FieldType} {hh : List (Nat × Nat × Nat × Nat)}
    (hown : s.vm.findClass own = some m.cls) (hlink : (Cond.methodLink own index y).before args s = true) (hstat : (Cond.static y).before args s = true) (hinit : (Cond.initialized y.cls).before args s = true)
    (hcode : (Cond.codeWith y bytes maxL ret hh).before args s = true) (hy : y.cls ≠ "java/lang/invoke/MethodHandle" ∧ y.cls ≠ "java/lang/invoke/VarHandle")
    {W9 : Nat} {Pre : Pt → Array Value → Prop} {Post : Pt → Array Value → Option Value → Pt → Prop} {PostX : Pt → Array Value → Addr → Pt → Prop} (hK : vx_Back l R p e below s args y 3 W9 Pre Post PostX)
    {g : JFrame} (hg : g.method = m) (hsize : g.locals.size = c.maxLocals) {argsL rest : List Value} (hlen : ∀ sig, parseMethodDescriptor y.desc = some sig → argsL.length = sig.parameters.length)
    (hstack : g.stack = argsL.reverse ++ rest) (hW : 2 * g.monitorRoom + (rest.map fun v => v.category).sum ≤ W9) (hdg : decode c.code g.pc = .ok (.invokestatic index, 3))
    (hpre : ∀ vm₁, s.WarmedH vm₁ → Pre ⟨T.setVm vm₁, locs, cells, slots⟩ argsL.toArray) :
    (∃ (v : Option Value) (vm₁ : Vm) (B : Pt), s.WarmedH vm₁ ∧ Stand p l e R s m args below meth c B.U B.locs B.cells B.slots ∧ Post ⟨T.setVm vm₁, locs, cells, slots⟩ argsL.toArray v B ∧
      ∀ target, Steps p.tables e below (B.U.setTop { g with pc := g.pc + 3, stack := v.toList ++ rest }) target → Steps p.tables e below (T.setTop g) target) ∨
    (∃ (q : Addr) (vm₁ : Vm) (B : Pt), s.WarmedH vm₁ ∧ Stand p l e R s m args below meth c B.U B.locs B.cells B.slots ∧ PostX ⟨T.setVm vm₁, locs, cells, slots⟩ argsL.toArray q B ∧
      Steps p.tables e below (T.setTop g) ((B.U.setTop { g with stack := rest }).pushFrame (.throwing q))) := by
  obtain ⟨mk, methM, cM, hnamed, hmethM, -, -, -, -, -, -, hsigM⟩ := Cond.codeWith_spec hcode
  have hstatic : methM.isStatic = true := Cond.static_spec hnamed hmethM hstat
  obtain ⟨kP, hkP, -⟩ := className_of_methodNamed hnamed
  have hinitP : kP.init = .initialized := Cond.initialized_spec (findClass_of_methodNamed hnamed) hkP hinit
  obtain ⟨vm₁, X₁, hstep₁⟩ := X.invokestatic hexec hown hlink hnamed hmethM hstatic hkP hinitP hy (g := g) hg (argsL := argsL) (rest := rest) (hlen _ hsigM) hstack hdg
  rcases hK m meth c ⟨T.setVm vm₁, locs, cells, slots⟩ { g with stack := rest } (.invokestatic index) mk argsL.toArray X₁ hg hsize hdg hW (X₁.named hnamed) (hpre vm₁ X₁.warmed) with ⟨v, B, X', hpost, hsteps⟩ | ⟨q, B, X', hpost, hsteps⟩
  · exact Or.inl ⟨v, vm₁, B, X₁.warmed, X', hpost, fun target h => hstep₁ _ fun acts => by rw [doInvoke_state]; exact hsteps.trans h⟩
  · exact Or.inr ⟨q, vm₁, B, X₁.warmed, X', hpost, hstep₁ _ fun acts => by rw [doInvoke_state]; exact hsteps⟩
theorem vx_callVW (X : Stand p l e R s m args below meth c T locs cells slots) (hexec : p.tables.exec = Jvm.exec) {own C : String} {index : Nat} {y : MethodName} {bytes : ByteArray} {maxL : Nat} {ret : Option FieldType} {hh : List (Nat × Nat × Nat × Nat)}
    (hown : s.vm.findClass own = some m.cls) (hlink : (Cond.methodLink own index y).before args s = true) (hinst : (Cond.instanceMethod y).before args s = true) (hsel : (Cond.selects C y y).before args s = true)
    (hcode : (Cond.codeWith y bytes maxL ret hh).before args s = true) (hy : y.cls ≠ "java/lang/invoke/MethodHandle" ∧ y.cls ≠ "java/lang/invoke/VarHandle")
    {W9 : Nat} {Pre : Pt → Array Value → Prop} {Post : Pt → Array Value → Option Value → Pt → Prop} (hK : Back l R p e below s args y 3 W9 Pre Post)
    {b : Addr} {cellB : Cell} (hcell : T.heap[b]? = some cellB) (hobj : cellB.vm.isStatics = false) (hcls : s.vm.findClass C = some cellB.cls)
    {g : JFrame} (hg : g.method = m) (hsize : g.locals.size = c.maxLocals) {argsL rest : List Value} (hlen : ∀ sig, parseMethodDescriptor y.desc = some sig → argsL.length = sig.parameters.length)
    (hstack : g.stack = argsL.reverse ++ .ref b :: rest) (hW : 2 * g.monitorRoom + (rest.map fun v => v.category).sum ≤ W9) (hdg : decode c.code g.pc = .ok (.invokevirtual index, 3))
    (hpre : ∀ vm₁, s.WarmedH vm₁ → Pre ⟨T.setVm vm₁, locs, cells, slots⟩ (Value.ref b :: argsL).toArray) :
    ∃ (v : Option Value) (vm₁ : Vm) (B : Pt), s.WarmedH vm₁ ∧ Stand p l e R s m args below meth c B.U B.locs B.cells B.slots ∧ Post ⟨T.setVm vm₁, locs, cells, slots⟩ (Value.ref b :: argsL).toArray v B ∧
      ∀ target, Steps p.tables e below (B.U.setTop { g with pc := g.pc + 3, stack := v.toList ++ rest }) target → Steps p.tables e below (T.setTop g) target := by
  obtain ⟨mk, methM, hnamed, hmethM, hstM, habM⟩ := Cond.instanceMethod_spec hinst
  obtain ⟨m8, methM', cM, hn8, hmethM', -, -, -, -, -, -, hsigM⟩ := Cond.codeWith_spec hcode
  cases Option.some.inj (hn8.symm.trans hnamed)
  cases hmethM.symm.trans hmethM'
  obtain ⟨c2, r2, m2, q1, q2, q3, q4, kP, hkP, hkPi⟩ := Cond.selects_spec hsel
  cases hcls.symm.trans q1
  cases (State.methodFound?_of_named hnamed hy).symm.trans q2
  cases hnamed.symm.trans q3
  have hselP : selectMethod e.platform s.vm cellB.cls mk = .method mk := by rw [Launch.admits_selectMethod X.admits]; exact q4
  obtain ⟨vm₁, X₁, hstep₁⟩ := X.invokevirtual hexec hown hlink hnamed hmethM hstM hkP hkPi hy (a := b) (cell := cellB) hcell
    (fun z h => by rw [h] at hobj; cases hobj) hselP hmethM habM hkP hkPi (g := g) hg (argsL := argsL) (rest := rest) (hlen _ hsigM) hstack hdg
  obtain ⟨v, B, X', hpost, hsteps⟩ := hK m meth c ⟨T.setVm vm₁, locs, cells, slots⟩ { g with stack := rest } (.invokevirtual index) mk (Value.ref b :: argsL).toArray X₁ hg hsize hdg hW (X₁.named hnamed) (hpre vm₁ X₁.warmed)
  exact ⟨v, vm₁, B, X₁.warmed, X', hpost, fun target h => hstep₁ _ fun acts => by rw [doInvoke_state]; exact hsteps.trans h⟩
abbrev vx_CVW (R : Room) (s : State) (args : Array Value) (own C : String) (index : Nat) (y : MethodName) (bytes : ByteArray) (maxL : Nat) (ret : Option FieldType) (hh : List (Nat × Nat × Nat × Nat)) (ws : List Cond) (rm : Room) (mc ms n : Nat) : Prop :=
  (rm.cells = mc ∧ rm.slots = ms ∧ rm.frames + 1 ≤ R.frames ∧ 8 + (maxL + 11) + rm.locals ≤ R.locals ∧ (∀ w ∈ ws, ∀ (a' : Array Value) (U : State), s.WarmedH U.vm → w.before a' U = true) ∧ Cond.codeWith y bytes maxL ret hh ∈ ws) ∧
  (Cond.codeWith y bytes maxL ret hh).before args s = true ∧ (Cond.initialized y.cls).before args s = true ∧ (y.cls ≠ "java/lang/invoke/MethodHandle" ∧ y.cls ≠ "java/lang/invoke/VarHandle") ∧
  (∀ sig, parseMethodDescriptor y.desc = some sig → n = sig.parameters.length) ∧ (Cond.methodLink own index y).before args s = true ∧ (Cond.instanceMethod y).before args s = true ∧ (Cond.selects C y y).before args s = true
theorem vx_cwVW {own C : String} {index maxL mc ms : Nat} {y : MethodName} {bytes : ByteArray} {ret : Option FieldType} {hh : List (Nat × Nat × Nat × Nat)} {Ts ws ws' : List Cond} {rm : Room} (n : Nat) (ht : ∀ w ∈ Ts, w.before args s = true) (hT : GoodIn Ts (wsV own index C y ws)) (hw : ws = Cond.codeWith y bytes maxL ret hh :: ws') (hrc : rm.cells = mc) (hrs : rm.slots = ms)
    (hd : y.cls = C ∧ y.cls ≠ "java/lang/invoke/MethodHandle" ∧ y.cls ≠ "java/lang/invoke/VarHandle" ∧ (parseMethodDescriptor y.desc).map (fun d => d.parameters.length) = some n) (hR : rm.frames + 1 ≤ R.frames ∧ 8 + (maxL + 11) + rm.locals ≤ R.locals) :
    vx_CVW R s args own C index y bytes maxL ret hh ws rm mc ms n := by
  obtain ⟨hC, hd⟩ := hd
  subst hC
  have ok : ∀ w ∈ wsV own index y.cls y ws, w.before args s = true := fun w h => ht w (hT w h).1
  have hG : GoodIn Ts ws := fun w h => hT w (by unfold wsV; exact List.mem_append_right _ h)
  have hc : Cond.codeWith y bytes maxL ret hh ∈ ws := by rw [hw]; exact List.mem_cons_self
  refine ⟨⟨hrc, hrs, hR.1, hR.2, pay_in ht hG, hc⟩, ht _ (hG _ hc).1, ok _ (by simp [wsV]), ⟨hd.1, hd.2.1⟩, fun sig h => ?_, ok _ (by simp [wsV]), ok _ (by simp [wsV]), ok _ (by simp [wsV])⟩
  have h2 := hd.2.2
  rw [h] at h2
  exact (Option.some.inj h2).symm
theorem vx_runVW {y : MethodName} {bytes cc : ByteArray} {maxL nL mc ms n index : Nat} {ret : Option FieldType} {hh : List (Nat × Nat × Nat × Nat)} {ws : List Cond} {rm : Room} {Pc : Array Value → State → Prop} {Qc : Array Value → State → Outcome → State → Prop} {free : Addr → Prop} {Ts : List Cond} {own C : String} {b : Addr} {As rest : List Value} {g : JFrame}
    (S : CallFix p m c cc nL s args Ts own) (hM : Met l y ws rm Pc Qc mc ms free) (cw : vx_CVW R s args own C index y bytes maxL ret hh ws rm mc ms n) (hp : PreV s H C b Pc As)
    (hg : g.method = m) (hn : As.length = n) (hsize : g.locals.size = nL) (hstack : g.stack = As.reverse ++ .ref b :: rest) (hW : 2 * g.monitorRoom + (rest.map fun v => v.category).sum ≤ 8) (hdg : decode cc g.pc = .ok (.invokevirtual index, 3)) (hf : cells + mc ≤ R.cells ∧ slots + ms ≤ R.slots) :
    va_Run p l e R s m args below meth c H locs cells slots mc ms g rest (Qc (Value.ref b :: As).toArray) free := by
  obtain ⟨⟨hrc, hrs, hfr, hlo, hws, hcw⟩, hcode, hini, hy, hlen, hl, hin, hse⟩ := cw
  have hK : Back l R p e below s args y 3 8 (PreOf R mc ms Pc) (PostOf Qc mc ms free) := va_backW (hh := hh) (bytes := bytes) (maxL := maxL) (ret := ret) hM hp.1 hrc hrs hfr hlo hws hcw (fun a' U hW => word_at hW (Or.inl (by first | rfl | simp [Cond.onTables, Cond.keeps, Cond.steady])) hini)
  obtain ⟨hx, hb, hml, ho, -⟩ := S
  obtain ⟨-, ⟨cellB, hcB, hoB, hclB⟩, hPc⟩ := hp
  intro T hT X
  obtain ⟨v, vm₁, ⟨U', l2, c2, s2⟩, hW₁, X', ⟨g', mk, t, L, e1, e2, hq, h1, hL, h2, h3⟩, st⟩ := vx_callVW X hx (C := C) (hh := hh) (bytes := bytes) (maxL := maxL) (ret := ret) ho hl hin hse hcode hy hK (by rw [hT]; exact hcB) hoB hclB hg (hsize.trans hml.symm) (argsL := As) (rest := rest) (fun sig h => hn.trans (hlen sig h)) hstack hW (by rw [hb]; exact hdg)
    (fun vm₁ hW₁ => ⟨hf.1, hf.2, hPc (T.setVm vm₁) hT hW₁⟩)
  dsimp only [Pt.U, Pt.locs, Pt.cells, Pt.slots] at X' e1 e2 h1 h2 h3 st
  subst h1; subst h2; subst h3
  exact ⟨v, (T.setVm vm₁).calling g' mk (Value.ref b :: As).toArray, t, U', L, hT, X', hL, e1, e2, hq, st⟩
section
variable {y : MethodName} {bytes cc : ByteArray} {maxL nL mc ms n index : Nat} {ret : Option FieldType} {ws : List Cond} {rm : Room} {Pc : Array Value → State → Prop} {Qc : Array Value → State → Outcome → State → Prop} {XC : String → State → State → Prop} {free : Addr → Prop} {Ts : List Cond} {own C : String} {b : Addr} {As rest : List Value} {g : JFrame}
theorem vx_runVX {hh : List (Nat × Nat × Nat × Nat)} (S : CallFix p m c cc nL s args Ts own) (hM : vx_Met l y ws rm Pc Qc XC mc ms free) (cw : vx_CVW R s args own C index y bytes maxL ret hh ws rm mc ms n) (hp : PreV s H C b Pc As)
    (hg : g.method = m) (hn : As.length = n) (hsize : g.locals.size = nL) (hstack : g.stack = As.reverse ++ .ref b :: rest) (hW : 2 * g.monitorRoom + (rest.map fun v => v.category).sum ≤ 8) (hdg : decode cc g.pc = .ok (.invokevirtual index, 3)) (hf : cells + mc ≤ R.cells ∧ slots + ms ≤ R.slots) :
    vx_Run p l e R s m args below meth c H locs cells slots mc ms g rest (Qc (Value.ref b :: As).toArray) XC free := by
  obtain ⟨⟨hrc, hrs, hfr, hlo, hws, hcw⟩, hcode, hini, hy, hlen, hl, hin, hse⟩ := cw
  have hK : vx_Back l R p e below s args y 3 8 (PreOf R mc ms Pc) (PostOf Qc mc ms free) (vx_Post XC mc ms free) := vx_backW (hh := hh) (bytes := bytes) (maxL := maxL) (ret := ret) hM hp.1 hrc hrs hfr hlo hws hcw (fun a' U hW => word_at hW (Or.inl (by first | rfl | simp [Cond.onTables, Cond.keeps, Cond.steady])) hini)
  obtain ⟨hx, hb, hml, ho, -⟩ := S
  obtain ⟨-, ⟨cellB, hcB, hoB, hclB⟩, hPc⟩ := hp
  intro T hT X
  rcases vx_callVX X hx (C := C) (hh := hh) (bytes := bytes) (maxL := maxL) (ret := ret) ho hl hin hse hcode hy hK (by rw [hT]; exact hcB) hoB hclB hg (hsize.trans hml.symm) (argsL := As) (rest := rest) (fun sig h => hn.trans (hlen sig h)) hstack hW (by rw [hb]; exact hdg)
    (fun vm₁ hW₁ => ⟨hf.1, hf.2, hPc (T.setVm vm₁) hT hW₁⟩) with ⟨v, vm₁, ⟨U', l2, c2, s2⟩, hW₁, X', ⟨g', mk, t, L, e1, e2, hq, h1, hL, h2, h3⟩, st⟩ | ⟨q, vm₁, ⟨U', l2, c2, s2⟩, hW₁, X', ⟨g', mk, t, L, E, ce, e1, e2, hq, hce, hcv, hcl, h1, hL, h2, h3⟩, st⟩
  · dsimp only [Pt.U, Pt.locs, Pt.cells, Pt.slots] at X' e1 e2 h1 h2 h3 st
    subst h1; subst h2; subst h3
    exact Or.inl ⟨v, (T.setVm vm₁).calling g' mk (Value.ref b :: As).toArray, t, U', L, hT, X', hL, e1, e2, hq, st⟩
  · dsimp only [Pt.U, Pt.locs, Pt.cells, Pt.slots] at X' e1 e2 h1 h2 h3 st hcl
    subst h1; subst h2; subst h3
    exact Or.inr ⟨q, (T.setVm vm₁).calling g' mk (Value.ref b :: As).toArray, t, U', L, E, ce, hT, X', hL, e1, e2, hq, hce, hcv, vx_cls hW₁ hcl, st⟩
theorem vx_runSX {hh : List (Nat × Nat × Nat × Nat)} (S : CallFix p m c cc nL s args Ts own) (hM : vx_Met l y ws rm Pc Qc XC mc ms free) (cw : vx_CSW R s args own index y bytes maxL ret hh ws rm mc ms n) (hp : PreS s H Pc As)
    (hg : g.method = m) (hn : As.length = n) (hsize : g.locals.size = nL) (hstack : g.stack = As.reverse ++ rest) (hW : 2 * g.monitorRoom + (rest.map fun v => v.category).sum ≤ 8) (hdg : decode cc g.pc = .ok (.invokestatic index, 3)) (hf : cells + mc ≤ R.cells ∧ slots + ms ≤ R.slots) :
    vx_Run p l e R s m args below meth c H locs cells slots mc ms g rest (Qc As.toArray) XC free := by
  obtain ⟨⟨hrc, hrs, hfr, hlo, hws, hcw⟩, hcode, hini, hy, hlen, hl, hstt⟩ := cw
  have hK : vx_Back l R p e below s args y 3 8 (PreOf R mc ms Pc) (PostOf Qc mc ms free) (vx_Post XC mc ms free) := vx_backW (hh := hh) (bytes := bytes) (maxL := maxL) (ret := ret) hM hp.1 hrc hrs hfr hlo hws hcw (fun a' U hW => word_at hW (Or.inl (by first | rfl | simp [Cond.onTables, Cond.keeps, Cond.steady])) hini)
  obtain ⟨hx, hb, hml, ho, -⟩ := S
  intro T hT X
  rcases vx_callSX X hx (hh := hh) (bytes := bytes) (maxL := maxL) (ret := ret) ho hl hstt hini hcode hy hK hg (hsize.trans hml.symm) (argsL := As) (rest := rest) (fun sig h => hn.trans (hlen sig h)) hstack hW (by rw [hb]; exact hdg)
    (fun vm₁ hW₁ => ⟨hf.1, hf.2, hp.2 (T.setVm vm₁) hT hW₁⟩) with ⟨v, vm₁, ⟨U', l2, c2, s2⟩, hW₁, X', ⟨g', mk, t, L, e1, e2, hq, h1, hL, h2, h3⟩, st⟩ | ⟨q, vm₁, ⟨U', l2, c2, s2⟩, hW₁, X', ⟨g', mk, t, L, E, ce, e1, e2, hq, hce, hcv, hcl, h1, hL, h2, h3⟩, st⟩
  · dsimp only [Pt.U, Pt.locs, Pt.cells, Pt.slots] at X' e1 e2 h1 h2 h3 st
    subst h1; subst h2; subst h3
    exact Or.inl ⟨v, (T.setVm vm₁).calling g' mk As.toArray, t, U', L, hT, X', hL, e1, e2, hq, st⟩
  · dsimp only [Pt.U, Pt.locs, Pt.cells, Pt.slots] at X' e1 e2 h1 h2 h3 st hcl
    subst h1; subst h2; subst h3
    exact Or.inr ⟨q, (T.setVm vm₁).calling g' mk As.toArray, t, U', L, E, ce, hT, X', hL, e1, e2, hq, hce, hcv, vx_cls hW₁ hcl, st⟩
end
end VXH
theorem vx_ofWH {l : Launch} {y : MethodName} {ws ws' : List Cond} {rm : Room} {Pc : Array Value → State → Prop} {Qc : Array Value → State → Outcome → State → Prop} {XC : String → State → State → Prop} {mc ms : Nat} {free : Addr → Prop} {cc : ByteArray} {maxL : Nat} {ret : Option FieldType} {hh : List (Nat × Nat × Nat × Nat)}
    (hy : plainName y.cls = true) (hw : ws = Cond.codeWith y cc maxL ret hh :: ws')
    (body : ∀ p e s m args below meth c s₁, BodyLoose p l y (headSpec ws rm) cc maxL ret e s m args below meth c s₁ → c.maxLocals = maxL → Pc args s →
      W p l e (headSpec ws rm).room s m args below meth c s.heap [] 0 0 (vx_MQ below Qc XC args s mc ms free) (entryFrame m args maxL)) : vx_Met l y ws rm Pc Qc XC mc ms free := by
  refine MetFree.of_bodyS (code := cc) (maxLocals := maxL) (ret := ret) hy ?_ ?_
  · intro args s m h hn
    obtain ⟨m9, meth, c, hn9, h1, h2, h3, h4, -, h5, h6, -⟩ := Cond.codeWith_spec (atoms_spec (ws := ws) h _ (by rw [hw]; exact List.mem_cons_self))
    cases hn.symm.trans hn9
    exact ⟨meth, c, h1, h2, h3, h4, h5, h6⟩
  · intro p e s m args below meth c s₁ B hml hP _
    have hh0 : s₁.heap = s.heap := by rw [B.state]; rfl
    obtain ⟨t, a1, o, b1, b2, b3⟩ := body p e s m args below meth c s₁ B hml hP s₁ hh0 (Stand.of_body B)
    exact ⟨t, o, a1, b1, b2, b3⟩
/-! ===== END ===== -/
end
section
/-! ===== BEGIN printed: names, fields, word lists, decode rows ===== -/
def RX0 : String := "FlightReader$Checkpoints"
def TX0 : u_T := fun k => match k with
  | 0 => ("FlightReader$Checkpoints", "count", "I", false)
  | 1 => ("FlightReader$Checkpoints", "places", "[I", true)
  | 2 => ("FlightReader$Checkpoints", "deltas", "[I", true)
  | 3 => ("FlightReader$Checkpoints", "deltaPlaces", "[I", true)
  | 4 => ("FlightReader$Checkpoints", "firstConstants", "[I", true)
  | 5 => ("FlightReader$Checkpoints", "constantCount", "I", false)
  | 6 => ("FlightReader$Checkpoints", "types", "[I", true)
  | 7 => ("FlightReader$Checkpoints", "keys", "[J", true)
  | _ => ("FlightReader$Checkpoints", "nodes", "[I", true)
def tyX0 : Nat → FieldType := fun k => match k with
  | 0 => .int
  | 1 => .array .int
  | 2 => .array .int
  | 3 => .array .int
  | 4 => .array .int
  | 5 => .int
  | 6 => .array .int
  | 7 => .array .long
  | _ => .array .int
abbrev wsX00 : List Cond := u_ws RX0 TX0 9
theorem nmX0 : ∀ a, a < 9 → ∀ b, b < 9 → a ≠ b → (TX0 a).2.1 ≠ (TX0 b).2.1 := by decide +kernel
theorem tyX0_ok : ∀ k, k < 9 → parseFieldDescriptor (TX0 k).2.2.1 = some (tyX0 k) := by decide +kernel
abbrev cX0_init : ByteArray := prog_2_method_1_code
def yX0_init : MethodName := ⟨RX0, "<init>", "()V"⟩
abbrev cX0_clear : ByteArray := prog_2_method_2_code
def yX0_clear : MethodName := ⟨RX0, "clear", "()V"⟩
abbrev cX0_read : ByteArray := prog_2_method_3_code
def yX0_read : MethodName := ⟨RX0, "read", "(LFlightReader$Source;LFlightReader$Chunk;LFlightReader$Values;I)V"⟩
abbrev cX0_link : ByteArray := prog_2_method_4_code
def yX0_link : MethodName := ⟨RX0, "link", "(LFlightReader$Source;LFlightReader$Chunk;)V"⟩
abbrev cX0_startingAt : ByteArray := prog_2_method_5_code
def yX0_startingAt : MethodName := ⟨RX0, "startingAt", "(I)I"⟩
def RX1 : String := "FlightReader$Chunk"
def TX1 : u_T := fun k => match k with
  | 0 => ("FlightReader$Chunk", "start", "I", false)
  | 1 => ("FlightReader$Chunk", "end", "I", false)
  | 2 => ("FlightReader$Chunk", "startTicks", "J", false)
  | 3 => ("FlightReader$Chunk", "ticksPerSecond", "J", false)
  | 4 => ("FlightReader$Chunk", "typeCount", "I", false)
  | 5 => ("FlightReader$Chunk", "types", "[LFlightReader$Type;", true)
  | 6 => ("FlightReader$Chunk", "constantCount", "I", false)
  | 7 => ("FlightReader$Chunk", "constantTypes", "[I", true)
  | 8 => ("FlightReader$Chunk", "constantKeys", "[J", true)
  | _ => ("FlightReader$Chunk", "constantNodes", "[I", true)
def tyX1 : Nat → FieldType := fun k => match k with
  | 0 => .int
  | 1 => .int
  | 2 => .long
  | 3 => .long
  | 4 => .int
  | 5 => .array (.object "FlightReader$Type")
  | 6 => .int
  | 7 => .array .int
  | 8 => .array .long
  | _ => .array .int
abbrev wsX10 : List Cond := u_ws RX1 TX1 10
theorem nmX1 : ∀ a, a < 10 → ∀ b, b < 10 → a ≠ b → (TX1 a).2.1 ≠ (TX1 b).2.1 := by decide +kernel
theorem tyX1_ok : ∀ k, k < 10 → parseFieldDescriptor (TX1 k).2.2.1 = some (tyX1 k) := by decide +kernel
abbrev cX1_init : ByteArray := prog_3_method_1_code
def yX1_init : MethodName := ⟨RX1, "<init>", "()V"⟩
abbrev cX1_readHeader : ByteArray := prog_3_method_2_code
def yX1_readHeader : MethodName := ⟨RX1, "readHeader", "(LFlightReader$Source;I)V"⟩
abbrev cX1_readMetadata : ByteArray := prog_3_method_3_code
def yX1_readMetadata : MethodName := ⟨RX1, "readMetadata", "(LFlightReader$Source;)V"⟩
abbrev cX1_fieldsHaveTypes : ByteArray := prog_3_method_4_code
def yX1_fieldsHaveTypes : MethodName := ⟨RX1, "fieldsHaveTypes", "()Z"⟩
abbrev cX1_someHoldItself : ByteArray := prog_3_method_5_code
def yX1_someHoldItself : MethodName := ⟨RX1, "someHoldItself", "()Z"⟩
abbrev cX1_holdsOnly : ByteArray := prog_3_method_6_code
def yX1_holdsOnly : MethodName := ⟨RX1, "holdsOnly", "(LFlightReader$Type;I)Z"⟩
abbrev cX1_typeWithId : ByteArray := prog_3_method_7_code
def yX1_typeWithId : MethodName := ⟨RX1, "typeWithId", "(I)I"⟩
abbrev cX1_isPlain : ByteArray := prog_3_method_8_code
def yX1_isPlain : MethodName := ⟨RX1, "isPlain", "(I)Z"⟩
abbrev cX1_isStructure : ByteArray := prog_3_method_9_code
def yX1_isStructure : MethodName := ⟨RX1, "isStructure", "(I)Z"⟩
abbrev cX1_isForEvents : ByteArray := prog_3_method_10_code
def yX1_isForEvents : MethodName := ⟨RX1, "isForEvents", "(I)Z"⟩
abbrev cX1_addConstant : ByteArray := prog_3_method_11_code
def yX1_addConstant : MethodName := ⟨RX1, "addConstant", "(IJI)V"⟩
abbrev cX1_constant : ByteArray := prog_3_method_12_code
def yX1_constant : MethodName := ⟨RX1, "constant", "(IJ)I"⟩
def RX2 : String := "FlightReader$Filter"
def TX2 : u_T := fun k => match k with
  | 0 => ("FlightReader$Filter", "typed", "[C", true)
  | 1 => ("FlightReader$Filter", "length", "I", false)
  | 2 => ("FlightReader$Filter", "name", "I", false)
  | 3 => ("FlightReader$Filter", "count", "I", false)
  | 4 => ("FlightReader$Filter", "paths", "[I", true)
  | 5 => ("FlightReader$Filter", "signs", "[C", true)
  | 6 => ("FlightReader$Filter", "numbers", "[J", true)
  | 7 => ("FlightReader$Filter", "state", "I", false)
  | 8 => ("FlightReader$Filter", "path", "I", false)
  | 9 => ("FlightReader$Filter", "steps", "I", false)
  | 10 => ("FlightReader$Filter", "digits", "I", false)
  | _ => ("FlightReader$Filter", "negative", "Z", false)
def tyX2 : Nat → FieldType := fun k => match k with
  | 0 => .array .char
  | 1 => .int
  | 2 => .int
  | 3 => .int
  | 4 => .array .int
  | 5 => .array .char
  | 6 => .array .long
  | 7 => .int
  | 8 => .int
  | 9 => .int
  | 10 => .int
  | _ => .boolean
abbrev wsX20 : List Cond := u_ws RX2 TX2 12
theorem nmX2 : ∀ a, a < 12 → ∀ b, b < 12 → a ≠ b → (TX2 a).2.1 ≠ (TX2 b).2.1 := by decide +kernel
theorem tyX2_ok : ∀ k, k < 12 → parseFieldDescriptor (TX2 k).2.2.1 = some (tyX2 k) := by decide +kernel
abbrev cX2_init : ByteArray := prog_4_method_1_code
def yX2_init : MethodName := ⟨RX2, "<init>", "()V"⟩
abbrev cX2_append : ByteArray := prog_4_method_2_code
def yX2_append : MethodName := ⟨RX2, "append", "(C)Z"⟩
abbrev cX2_read : ByteArray := prog_4_method_3_code
def yX2_read : MethodName := ⟨RX2, "read", "()I"⟩
abbrev cX2_stateAfter : ByteArray := prog_4_method_4_code
def yX2_stateAfter : MethodName := ⟨RX2, "stateAfter", "(C)I"⟩
abbrev cX2_takeName : ByteArray := prog_4_method_5_code
def yX2_takeName : MethodName := ⟨RX2, "takeName", "(C)I"⟩
abbrev cX2_takeStep : ByteArray := prog_4_method_6_code
def yX2_takeStep : MethodName := ⟨RX2, "takeStep", "(C)I"⟩
abbrev cX2_takeDot : ByteArray := prog_4_method_7_code
def yX2_takeDot : MethodName := ⟨RX2, "takeDot", "()I"⟩
abbrev cX2_takeSign : ByteArray := prog_4_method_8_code
def yX2_takeSign : MethodName := ⟨RX2, "takeSign", "(C)I"⟩
abbrev cX2_takeMinus : ByteArray := prog_4_method_9_code
def yX2_takeMinus : MethodName := ⟨RX2, "takeMinus", "()I"⟩
abbrev cX2_takeDigit : ByteArray := prog_4_method_10_code
def yX2_takeDigit : MethodName := ⟨RX2, "takeDigit", "(C)I"⟩
abbrev cX2_passes : ByteArray := prog_4_method_11_code
def yX2_passes : MethodName := ⟨RX2, "passes", "(LFlightReader$Recording;I)Z"⟩
abbrev cX2_holds : ByteArray := prog_4_method_12_code
def yX2_holds : MethodName := ⟨RX2, "holds", "(CJJ)Z"⟩
def RX3 : String := "FlightReader$Groups"
def TX3 : u_T := fun k => match k with
  | 0 => ("FlightReader$Groups", "count", "I", false)
  | 1 => ("FlightReader$Groups", "keys", "[J", true)
  | 2 => ("FlightReader$Groups", "events", "[I", true)
  | 3 => ("FlightReader$Groups", "numbers", "[I", true)
  | 4 => ("FlightReader$Groups", "sums", "[J", true)
  | 5 => ("FlightReader$Groups", "leasts", "[J", true)
  | _ => ("FlightReader$Groups", "greatests", "[J", true)
def tyX3 : Nat → FieldType := fun k => match k with
  | 0 => .int
  | 1 => .array .long
  | 2 => .array .int
  | 3 => .array .int
  | 4 => .array .long
  | 5 => .array .long
  | _ => .array .long
abbrev wsX30 : List Cond := u_ws RX3 TX3 7
theorem nmX3 : ∀ a, a < 7 → ∀ b, b < 7 → a ≠ b → (TX3 a).2.1 ≠ (TX3 b).2.1 := by decide +kernel
theorem tyX3_ok : ∀ k, k < 7 → parseFieldDescriptor (TX3 k).2.2.1 = some (tyX3 k) := by decide +kernel
abbrev cX3_init : ByteArray := prog_5_method_1_code
def yX3_init : MethodName := ⟨RX3, "<init>", "()V"⟩
abbrev cX3_clear : ByteArray := prog_5_method_2_code
def yX3_clear : MethodName := ⟨RX3, "clear", "()V"⟩
abbrev cX3_enter : ByteArray := prog_5_method_3_code
def yX3_enter : MethodName := ⟨RX3, "enter", "(J)I"⟩
abbrev cX3_add : ByteArray := prog_5_method_4_code
def yX3_add : MethodName := ⟨RX3, "add", "(IJ)V"⟩
def RX4 : String := "FlightReader$Recording"
def TX4 : u_T := fun k => match k with
  | 0 => ("FlightReader$Recording", "chunkCount", "I", false)
  | 1 => ("FlightReader$Recording", "chunks", "[LFlightReader$Chunk;", true)
  | 2 => ("FlightReader$Recording", "values", "LFlightReader$Values;", true)
  | 3 => ("FlightReader$Recording", "eventCount", "I", false)
  | 4 => ("FlightReader$Recording", "eventChunk", "[I", true)
  | 5 => ("FlightReader$Recording", "eventTicks", "[J", true)
  | _ => ("FlightReader$Recording", "eventNode", "[I", true)
def tyX4 : Nat → FieldType := fun k => match k with
  | 0 => .int
  | 1 => .array (.object "FlightReader$Chunk")
  | 2 => .object "FlightReader$Values"
  | 3 => .int
  | 4 => .array .int
  | 5 => .array .long
  | _ => .array .int
abbrev wsX40 : List Cond := u_ws RX4 TX4 7
theorem nmX4 : ∀ a, a < 7 → ∀ b, b < 7 → a ≠ b → (TX4 a).2.1 ≠ (TX4 b).2.1 := by decide +kernel
theorem tyX4_ok : ∀ k, k < 7 → parseFieldDescriptor (TX4 k).2.2.1 = some (tyX4 k) := by decide +kernel
abbrev cX4_init : ByteArray := prog_6_method_1_code
def yX4_init : MethodName := ⟨RX4, "<init>", "()V"⟩
abbrev cX4_clear : ByteArray := prog_6_method_2_code
def yX4_clear : MethodName := ⟨RX4, "clear", "()V"⟩
abbrev cX4_readChunk : ByteArray := prog_6_method_3_code
def yX4_readChunk : MethodName := ⟨RX4, "readChunk", "(LFlightReader$Source;LFlightReader$Checkpoints;I)I"⟩
abbrev cX4_readEvent : ByteArray := prog_6_method_4_code
def yX4_readEvent : MethodName := ⟨RX4, "readEvent", "(LFlightReader$Source;LFlightReader$Chunk;II)V"⟩
abbrev cX4_nanosSinceStart : ByteArray := prog_6_method_5_code
def yX4_nanosSinceStart : MethodName := ⟨RX4, "nanosSinceStart", "(I)J"⟩
abbrev cX4_find : ByteArray := prog_6_method_6_code
def yX4_find : MethodName := ⟨RX4, "find", "(II)I"⟩
abbrev cX4_constantFor : ByteArray := prog_6_method_7_code
def yX4_constantFor : MethodName := ⟨RX4, "constantFor", "(LFlightReader$Chunk;I)I"⟩
abbrev cX4_isKey : ByteArray := prog_6_method_8_code
def yX4_isKey : MethodName := ⟨RX4, "isKey", "(I)Z"⟩
def RX5 : String := "FlightReader$Source"
def TX5 : u_T := fun k => match k with
  | 0 => ("FlightReader$Source", "bytes", "[B", true)
  | 1 => ("FlightReader$Source", "fed", "I", false)
  | 2 => ("FlightReader$Source", "total", "I", false)
  | 3 => ("FlightReader$Source", "pos", "I", false)
  | 4 => ("FlightReader$Source", "limit", "I", false)
  | 5 => ("FlightReader$Source", "idPlace", "I", false)
  | 6 => ("FlightReader$Source", "faultKind", "I", false)
  | _ => ("FlightReader$Source", "faultPlace", "I", false)
def tyX5 : Nat → FieldType := fun k => match k with
  | 0 => .array .byte
  | 1 => .int
  | 2 => .int
  | 3 => .int
  | 4 => .int
  | 5 => .int
  | 6 => .int
  | _ => .int
abbrev wsX50 : List Cond := u_ws RX5 TX5 8
theorem nmX5 : ∀ a, a < 8 → ∀ b, b < 8 → a ≠ b → (TX5 a).2.1 ≠ (TX5 b).2.1 := by decide +kernel
theorem tyX5_ok : ∀ k, k < 8 → parseFieldDescriptor (TX5 k).2.2.1 = some (tyX5 k) := by decide +kernel
abbrev cX5_init : ByteArray := prog_7_method_1_code
def yX5_init : MethodName := ⟨RX5, "<init>", "()V"⟩
abbrev cX5_append : ByteArray := prog_7_method_2_code
def yX5_append : MethodName := ⟨RX5, "append", "(II)Z"⟩
abbrev cX5_rewind : ByteArray := prog_7_method_3_code
def yX5_rewind : MethodName := ⟨RX5, "rewind", "()I"⟩
abbrev cX5_fail : ByteArray := prog_7_method_4_code
def yX5_fail : MethodName := ⟨RX5, "fail", "(II)V"⟩
abbrev cX5_byteAt : ByteArray := prog_7_method_5_code
def yX5_byteAt : MethodName := ⟨RX5, "byteAt", "(I)I"⟩
abbrev cX5_fixedAt : ByteArray := prog_7_method_6_code
def yX5_fixedAt : MethodName := ⟨RX5, "fixedAt", "(II)J"⟩
abbrev cX5_fixed : ByteArray := prog_7_method_7_code
def yX5_fixed : MethodName := ⟨RX5, "fixed", "(I)J"⟩
abbrev cX5_oneByte : ByteArray := prog_7_method_8_code
def yX5_oneByte : MethodName := ⟨RX5, "oneByte", "()I"⟩
abbrev cX5_number : ByteArray := prog_7_method_9_code
def yX5_number : MethodName := ⟨RX5, "number", "()J"⟩
abbrev cX5_count : ByteArray := prog_7_method_10_code
def yX5_count : MethodName := ⟨RX5, "count", "()I"⟩
abbrev cX5_head : ByteArray := prog_7_method_11_code
def yX5_head : MethodName := ⟨RX5, "head", "(II)I"⟩
abbrev cX5_requireEventEnd : ByteArray := prog_7_method_12_code
def yX5_requireEventEnd : MethodName := ⟨RX5, "requireEventEnd", "()V"⟩
abbrev cX5_utf8 : ByteArray := prog_7_method_13_code
def yX5_utf8 : MethodName := ⟨RX5, "utf8", "(I)C"⟩
def RX6 : String := "FlightReader$Tally"
def TX6 : u_T := fun k => match k with
  | 0 => ("FlightReader$Tally", "count", "I", false)
  | _ => ("FlightReader$Tally", "sorted", "[J", true)
def tyX6 : Nat → FieldType := fun k => match k with
  | 0 => .int
  | _ => .array .long
abbrev wsX60 : List Cond := u_ws RX6 TX6 2
theorem nmX6 : ∀ a, a < 2 → ∀ b, b < 2 → a ≠ b → (TX6 a).2.1 ≠ (TX6 b).2.1 := by decide +kernel
theorem tyX6_ok : ∀ k, k < 2 → parseFieldDescriptor (TX6 k).2.2.1 = some (tyX6 k) := by decide +kernel
abbrev cX6_init : ByteArray := prog_8_method_1_code
def yX6_init : MethodName := ⟨RX6, "<init>", "()V"⟩
abbrev cX6_add : ByteArray := prog_8_method_2_code
def yX6_add : MethodName := ⟨RX6, "add", "(J)V"⟩
abbrev cX6_sum : ByteArray := prog_8_method_3_code
def yX6_sum : MethodName := ⟨RX6, "sum", "()J"⟩
abbrev cX6_inOrder : ByteArray := prog_8_method_4_code
def yX6_inOrder : MethodName := ⟨RX6, "inOrder", "(I)J"⟩
abbrev cX6_mean : ByteArray := prog_8_method_5_code
def yX6_mean : MethodName := ⟨RX6, "mean", "()J"⟩
def RX7 : String := "FlightReader$Type"
def TX7 : u_T := fun k => match k with
  | 0 => ("FlightReader$Type", "id", "I", false)
  | 1 => ("FlightReader$Type", "name", "I", false)
  | 2 => ("FlightReader$Type", "forEvents", "Z", false)
  | 3 => ("FlightReader$Type", "fieldCount", "I", false)
  | 4 => ("FlightReader$Type", "fieldNames", "[I", true)
  | 5 => ("FlightReader$Type", "fieldTypes", "[I", true)
  | _ => ("FlightReader$Type", "fieldFlags", "[I", true)
def tyX7 : Nat → FieldType := fun k => match k with
  | 0 => .int
  | 1 => .int
  | 2 => .boolean
  | 3 => .int
  | 4 => .array .int
  | 5 => .array .int
  | _ => .array .int
abbrev wsX70 : List Cond := u_ws RX7 TX7 7
theorem nmX7 : ∀ a, a < 7 → ∀ b, b < 7 → a ≠ b → (TX7 a).2.1 ≠ (TX7 b).2.1 := by decide +kernel
theorem tyX7_ok : ∀ k, k < 7 → parseFieldDescriptor (TX7 k).2.2.1 = some (tyX7 k) := by decide +kernel
abbrev cX7_init : ByteArray := prog_9_method_1_code
def yX7_init : MethodName := ⟨RX7, "<init>", "()V"⟩
abbrev cX7_read : ByteArray := prog_9_method_2_code
def yX7_read : MethodName := ⟨RX7, "read", "(LFlightReader$Source;I)V"⟩
abbrev cX7_readField : ByteArray := prog_9_method_3_code
def yX7_readField : MethodName := ⟨RX7, "readField", "(LFlightReader$Source;)V"⟩
abbrev cX7_fieldNamed : ByteArray := prog_9_method_4_code
def yX7_fieldNamed : MethodName := ⟨RX7, "fieldNamed", "(I)I"⟩
def RX8 : String := "FlightReader$Values"
def TX8 : u_T := fun k => match k with
  | 0 => ("FlightReader$Values", "size", "I", false)
  | 1 => ("FlightReader$Values", "kinds", "[I", true)
  | 2 => ("FlightReader$Values", "bits", "[J", true)
  | 3 => ("FlightReader$Values", "refs", "[I", true)
  | 4 => ("FlightReader$Values", "ends", "[I", true)
  | 5 => ("FlightReader$Values", "letterCount", "I", false)
  | _ => ("FlightReader$Values", "letters", "[C", true)
def tyX8 : Nat → FieldType := fun k => match k with
  | 0 => .int
  | 1 => .array .int
  | 2 => .array .long
  | 3 => .array .int
  | 4 => .array .int
  | 5 => .int
  | _ => .array .char
abbrev wsX80 : List Cond := u_ws RX8 TX8 7
theorem nmX8 : ∀ a, a < 7 → ∀ b, b < 7 → a ≠ b → (TX8 a).2.1 ≠ (TX8 b).2.1 := by decide +kernel
theorem tyX8_ok : ∀ k, k < 7 → parseFieldDescriptor (TX8 k).2.2.1 = some (tyX8 k) := by decide +kernel
abbrev cX8_init : ByteArray := prog_10_method_1_code
def yX8_init : MethodName := ⟨RX8, "<init>", "()V"⟩
abbrev cX8_clear : ByteArray := prog_10_method_2_code
def yX8_clear : MethodName := ⟨RX8, "clear", "()V"⟩
abbrev cX8_read : ByteArray := prog_10_method_3_code
def yX8_read : MethodName := ⟨RX8, "read", "(LFlightReader$Source;LFlightReader$Chunk;III)I"⟩
abbrev cX8_put : ByteArray := prog_10_method_4_code
def yX8_put : MethodName := ⟨RX8, "put", "(IIJI)V"⟩
abbrev cX8_readPlain : ByteArray := prog_10_method_5_code
def yX8_readPlain : MethodName := ⟨RX8, "readPlain", "(LFlightReader$Source;I)J"⟩
abbrev cX8_readText : ByteArray := prog_10_method_6_code
def yX8_readText : MethodName := ⟨RX8, "readText", "(LFlightReader$Source;I)V"⟩
abbrev cX8_addLetter : ByteArray := prog_10_method_7_code
def yX8_addLetter : MethodName := ⟨RX8, "addLetter", "(C)V"⟩
abbrev cX8_isNumber : ByteArray := prog_10_method_8_code
def yX8_isNumber : MethodName := ⟨RX8, "isNumber", "(I)Z"⟩
abbrev cX8_part : ByteArray := prog_10_method_9_code
def yX8_part : MethodName := ⟨RX8, "part", "(LFlightReader$Chunk;II)I"⟩
def RX9 : String := "FlightReader"
def TX9 : u_T := fun k => match k with
  | 0 => ("FlightReader", "source", "LFlightReader$Source;", true)
  | 1 => ("FlightReader", "checkpoints", "LFlightReader$Checkpoints;", true)
  | 2 => ("FlightReader", "recording", "LFlightReader$Recording;", false)
  | 3 => ("FlightReader", "spare", "LFlightReader$Recording;", false)
  | 4 => ("FlightReader", "filter", "LFlightReader$Filter;", true)
  | 5 => ("FlightReader", "chosen", "[I", true)
  | 6 => ("FlightReader", "chosenCount", "I", false)
  | 7 => ("FlightReader", "misfitPlace", "I", false)
  | 8 => ("FlightReader", "tally", "LFlightReader$Tally;", true)
  | _ => ("FlightReader", "groups", "LFlightReader$Groups;", true)
def tyX9 : Nat → FieldType := fun k => match k with
  | 0 => .object "FlightReader$Source"
  | 1 => .object "FlightReader$Checkpoints"
  | 2 => .object "FlightReader$Recording"
  | 3 => .object "FlightReader$Recording"
  | 4 => .object "FlightReader$Filter"
  | 5 => .array .int
  | 6 => .int
  | 7 => .int
  | 8 => .object "FlightReader$Tally"
  | _ => .object "FlightReader$Groups"
abbrev wsX90 : List Cond := u_ws RX9 TX9 10
theorem nmX9 : ∀ a, a < 10 → ∀ b, b < 10 → a ≠ b → (TX9 a).2.1 ≠ (TX9 b).2.1 := by decide +kernel
theorem tyX9_ok : ∀ k, k < 10 → parseFieldDescriptor (TX9 k).2.2.1 = some (tyX9 k) := by decide +kernel
abbrev cX9_init : ByteArray := prog_1_method_1_code
def yX9_init : MethodName := ⟨RX9, "<init>", "()V"⟩
abbrev cX9_feed : ByteArray := prog_1_method_2_code
def yX9_feed : MethodName := ⟨RX9, "feed", "(II)Z"⟩
abbrev cX9_open : ByteArray := prog_1_method_3_code
def yX9_open : MethodName := ⟨RX9, "open", "()I"⟩
abbrev cX9_fault : ByteArray := prog_1_method_4_code
def yX9_fault : MethodName := ⟨RX9, "fault", "(I)I"⟩
abbrev cX9_chunks : ByteArray := prog_1_method_5_code
def yX9_chunks : MethodName := ⟨RX9, "chunks", "()I"⟩
abbrev cX9_event : ByteArray := prog_1_method_6_code
def yX9_event : MethodName := ⟨RX9, "event", "(II)J"⟩
abbrev cX9_kind : ByteArray := prog_1_method_7_code
def yX9_kind : MethodName := ⟨RX9, "kind", "(II)I"⟩
abbrev cX9_value : ByteArray := prog_1_method_8_code
def yX9_value : MethodName := ⟨RX9, "value", "(II)J"⟩
abbrev cX9_letter : ByteArray := prog_1_method_9_code
def yX9_letter : MethodName := ⟨RX9, "letter", "(III)I"⟩
abbrev cX9_type : ByteArray := prog_1_method_10_code
def yX9_type : MethodName := ⟨RX9, "type", "(C)Z"⟩
abbrev cX9_select : ByteArray := prog_1_method_11_code
def yX9_select : MethodName := ⟨RX9, "select", "(Z)I"⟩
abbrev cX9_misfit : ByteArray := prog_1_method_12_code
def yX9_misfit : MethodName := ⟨RX9, "misfit", "()I"⟩
abbrev cX9_selected : ByteArray := prog_1_method_13_code
def yX9_selected : MethodName := ⟨RX9, "selected", "(I)I"⟩
abbrev cX9_fold : ByteArray := prog_1_method_14_code
def yX9_fold : MethodName := ⟨RX9, "fold", "(II)J"⟩
abbrev cX9_group : ByteArray := prog_1_method_15_code
def yX9_group : MethodName := ⟨RX9, "group", "(II)I"⟩
abbrev cX9_grouped : ByteArray := prog_1_method_16_code
def yX9_grouped : MethodName := ⟨RX9, "grouped", "(II)J"⟩
abbrev cX9_requireEvent : ByteArray := prog_1_method_17_code
def yX9_requireEvent : MethodName := ⟨RX9, "requireEvent", "(I)V"⟩
abbrev cX9_chooseAll : ByteArray := prog_1_method_18_code
def yX9_chooseAll : MethodName := ⟨RX9, "chooseAll", "()V"⟩
abbrev cX9_tallyChosen : ByteArray := prog_1_method_19_code
def yX9_tallyChosen : MethodName := ⟨RX9, "tallyChosen", "(I)V"⟩
def RX10 : String := "FlightReaderModel"
def TX10 : u_T := fun k => match k with
  | 0 => ("FlightReaderModel", "code", "I", false)
  | 1 => ("FlightReaderModel", "fed", "[I", true)
  | 2 => ("FlightReaderModel", "count", "I", false)
  | 3 => ("FlightReaderModel", "side", "I", false)
  | 4 => ("FlightReaderModel", "bytes", "[I", true)
  | 5 => ("FlightReaderModel", "size", "[I", true)
  | 6 => ("FlightReaderModel", "chunks", "[I", true)
  | 7 => ("FlightReaderModel", "chunkAt", "[I", true)
  | 8 => ("FlightReaderModel", "events", "[I", true)
  | 9 => ("FlightReaderModel", "eventAt", "[I", true)
  | 10 => ("FlightReaderModel", "eventChunk", "[I", true)
  | 11 => ("FlightReaderModel", "types", "[I", true)
  | 12 => ("FlightReaderModel", "typeId", "[J", true)
  | 13 => ("FlightReaderModel", "typeName", "[I", true)
  | 14 => ("FlightReaderModel", "typeKind", "[I", true)
  | 15 => ("FlightReaderModel", "fields", "[I", true)
  | 16 => ("FlightReaderModel", "fieldName", "[I", true)
  | 17 => ("FlightReaderModel", "fieldType", "[J", true)
  | 18 => ("FlightReaderModel", "fieldFlags", "[I", true)
  | 19 => ("FlightReaderModel", "of", "I", false)
  | 20 => ("FlightReaderModel", "slot", "I", false)
  | 21 => ("FlightReaderModel", "at", "I", false)
  | 22 => ("FlightReaderModel", "limit", "I", false)
  | 23 => ("FlightReaderModel", "checks", "Z", false)
  | 24 => ("FlightReaderModel", "values", "I", false)
  | 25 => ("FlightReaderModel", "fault", "I", false)
  | 26 => ("FlightReaderModel", "place", "I", false)
  | 27 => ("FlightReaderModel", "told", "I", false)
  | 28 => ("FlightReaderModel", "toldPlace", "I", false)
  | 29 => ("FlightReaderModel", "depth", "I", false)
  | 30 => ("FlightReaderModel", "left", "[I", true)
  | 31 => ("FlightReaderModel", "openType", "[J", true)
  | 32 => ("FlightReaderModel", "openNext", "[I", true)
  | 33 => ("FlightReaderModel", "spot", "I", false)
  | 34 => ("FlightReaderModel", "spotType", "J", false)
  | 35 => ("FlightReaderModel", "spotFlags", "I", false)
  | 36 => ("FlightReaderModel", "spotKind", "I", false)
  | 37 => ("FlightReaderModel", "typed", "[I", true)
  | 38 => ("FlightReaderModel", "letters", "I", false)
  | 39 => ("FlightReaderModel", "misfit", "I", false)
  | 40 => ("FlightReaderModel", "wanted", "I", false)
  | 41 => ("FlightReaderModel", "comparisons", "I", false)
  | 42 => ("FlightReaderModel", "path", "[I", true)
  | 43 => ("FlightReaderModel", "operator", "[I", true)
  | 44 => ("FlightReaderModel", "bound", "[J", true)
  | 45 => ("FlightReaderModel", "selected", "I", false)
  | 46 => ("FlightReaderModel", "selection", "[I", true)
  | 47 => ("FlightReaderModel", "numbers", "I", false)
  | 48 => ("FlightReaderModel", "number", "[J", true)
  | 49 => ("FlightReaderModel", "groups", "I", false)
  | 50 => ("FlightReaderModel", "groupKey", "[J", true)
  | 51 => ("FlightReaderModel", "groupEvents", "[I", true)
  | 52 => ("FlightReaderModel", "groupNumbers", "[I", true)
  | 53 => ("FlightReaderModel", "groupSum", "[J", true)
  | 54 => ("FlightReaderModel", "groupLeast", "[J", true)
  | 55 => ("FlightReaderModel", "groupMost", "[J", true)
  | 56 => ("FlightReaderModel", "lastId", "J", false)
  | _ => ("FlightReaderModel", "lastIdAt", "I", false)
def tyX10 : Nat → FieldType := fun k => match k with
  | 0 => .int
  | 1 => .array .int
  | 2 => .int
  | 3 => .int
  | 4 => .array .int
  | 5 => .array .int
  | 6 => .array .int
  | 7 => .array .int
  | 8 => .array .int
  | 9 => .array .int
  | 10 => .array .int
  | 11 => .array .int
  | 12 => .array .long
  | 13 => .array .int
  | 14 => .array .int
  | 15 => .array .int
  | 16 => .array .int
  | 17 => .array .long
  | 18 => .array .int
  | 19 => .int
  | 20 => .int
  | 21 => .int
  | 22 => .int
  | 23 => .boolean
  | 24 => .int
  | 25 => .int
  | 26 => .int
  | 27 => .int
  | 28 => .int
  | 29 => .int
  | 30 => .array .int
  | 31 => .array .long
  | 32 => .array .int
  | 33 => .int
  | 34 => .long
  | 35 => .int
  | 36 => .int
  | 37 => .array .int
  | 38 => .int
  | 39 => .int
  | 40 => .int
  | 41 => .int
  | 42 => .array .int
  | 43 => .array .int
  | 44 => .array .long
  | 45 => .int
  | 46 => .array .int
  | 47 => .int
  | 48 => .array .long
  | 49 => .int
  | 50 => .array .long
  | 51 => .array .int
  | 52 => .array .int
  | 53 => .array .long
  | 54 => .array .long
  | 55 => .array .long
  | 56 => .long
  | _ => .int
abbrev wsX100 : List Cond := u_ws RX10 TX10 58
theorem nmX10 : ∀ a, a < 58 → ∀ b, b < 58 → a ≠ b → (TX10 a).2.1 ≠ (TX10 b).2.1 := by decide +kernel
theorem tyX10_ok : ∀ k, k < 58 → parseFieldDescriptor (TX10 k).2.2.1 = some (tyX10 k) := by decide +kernel
abbrev cX10_init : ByteArray := prog_12_method_1_code
def yX10_init : MethodName := ⟨RX10, "<init>", "()V"⟩
abbrev cX10_thrown : ByteArray := prog_12_method_2_code
def yX10_thrown : MethodName := ⟨RX10, "thrown", "()I"⟩
abbrev cX10_fails : ByteArray := prog_12_method_3_code
def yX10_fails : MethodName := ⟨RX10, "fails", "(I)I"⟩
abbrev cX10_feed : ByteArray := prog_12_method_4_code
def yX10_feed : MethodName := ⟨RX10, "feed", "(II)Z"⟩
abbrev cX10_get : ByteArray := prog_12_method_5_code
def yX10_get : MethodName := ⟨RX10, "get", "(I)I"⟩
abbrev cX10_wrong : ByteArray := prog_12_method_6_code
def yX10_wrong : MethodName := ⟨RX10, "wrong", "(II)V"⟩
abbrev cX10_next : ByteArray := prog_12_method_7_code
def yX10_next : MethodName := ⟨RX10, "next", "()I"⟩
abbrev cX10_compressed : ByteArray := prog_12_method_8_code
def yX10_compressed : MethodName := ⟨RX10, "compressed", "()J"⟩
abbrev cX10_small : ByteArray := prog_12_method_9_code
def yX10_small : MethodName := ⟨RX10, "small", "()I"⟩
abbrev cX10_two : ByteArray := prog_12_method_10_code
def yX10_two : MethodName := ⟨RX10, "two", "(I)I"⟩
abbrev cX10_four : ByteArray := prog_12_method_11_code
def yX10_four : MethodName := ⟨RX10, "four", "(I)J"⟩
abbrev cX10_typeOf : ByteArray := prog_12_method_12_code
def yX10_typeOf : MethodName := ⟨RX10, "typeOf", "(JI)I"⟩
abbrev cX10_fieldOf : ByteArray := prog_12_method_13_code
def yX10_fieldOf : MethodName := ⟨RX10, "fieldOf", "(II)I"⟩
abbrev cX10_push : ByteArray := prog_12_method_14_code
def yX10_push : MethodName := ⟨RX10, "push", "(IJI)V"⟩
abbrev cX10_counted : ByteArray := prog_12_method_15_code
def yX10_counted : MethodName := ⟨RX10, "counted", "()V"⟩
abbrev cX10_begin : ByteArray := prog_12_method_16_code
def yX10_begin : MethodName := ⟨RX10, "begin", "(JI)V"⟩
abbrev cX10_finish : ByteArray := prog_12_method_17_code
def yX10_finish : MethodName := ⟨RX10, "finish", "()V"⟩
abbrev cX10_pass : ByteArray := prog_12_method_18_code
def yX10_pass : MethodName := ⟨RX10, "pass", "(JI)V"⟩
abbrev cX10_plain : ByteArray := prog_12_method_19_code
def yX10_plain : MethodName := ⟨RX10, "plain", "(I)V"⟩
abbrev cX10_text : ByteArray := prog_12_method_20_code
def yX10_text : MethodName := ⟨RX10, "text", "()V"⟩
abbrev cX10_character : ByteArray := prog_12_method_21_code
def yX10_character : MethodName := ⟨RX10, "character", "(I)I"⟩
abbrev cX10_open : ByteArray := prog_12_method_22_code
def yX10_open : MethodName := ⟨RX10, "open", "()I"⟩
abbrev cX10_header : ByteArray := prog_12_method_23_code
def yX10_header : MethodName := ⟨RX10, "header", "(I)V"⟩
abbrev cX10_chunk : ByteArray := prog_12_method_24_code
def yX10_chunk : MethodName := ⟨RX10, "chunk", "(I)I"⟩
abbrev cX10_begins : ByteArray := prog_12_method_25_code
def yX10_begins : MethodName := ⟨RX10, "begins", "(II)I"⟩
abbrev cX10_metadata : ByteArray := prog_12_method_26_code
def yX10_metadata : MethodName := ⟨RX10, "metadata", "(II)V"⟩
abbrev cX10_typeTold : ByteArray := prog_12_method_27_code
def yX10_typeTold : MethodName := ⟨RX10, "typeTold", "()V"⟩
abbrev cX10_fieldTold : ByteArray := prog_12_method_28_code
def yX10_fieldTold : MethodName := ⟨RX10, "fieldTold", "(I)V"⟩
abbrev cX10_structures : ByteArray := prog_12_method_29_code
def yX10_structures : MethodName := ⟨RX10, "structures", "(I)V"⟩
abbrev cX10_held : ByteArray := prog_12_method_30_code
def yX10_held : MethodName := ⟨RX10, "held", "(I)Z"⟩
abbrev cX10_checkpoint : ByteArray := prog_12_method_31_code
def yX10_checkpoint : MethodName := ⟨RX10, "checkpoint", "(I)I"⟩
abbrev cX10_toldEvent : ByteArray := prog_12_method_32_code
def yX10_toldEvent : MethodName := ⟨RX10, "toldEvent", "(IJ)V"⟩
abbrev cX10_isCheckpoint : ByteArray := prog_12_method_33_code
def yX10_isCheckpoint : MethodName := ⟨RX10, "isCheckpoint", "(III)Z"⟩
abbrev cX10_chain : ByteArray := prog_12_method_34_code
def yX10_chain : MethodName := ⟨RX10, "chain", "(II)V"⟩
abbrev cX10_fault : ByteArray := prog_12_method_35_code
def yX10_fault : MethodName := ⟨RX10, "fault", "(I)I"⟩
abbrev cX10_chunks : ByteArray := prog_12_method_36_code
def yX10_chunks : MethodName := ⟨RX10, "chunks", "()I"⟩
abbrev cX10_isEvent : ByteArray := prog_12_method_37_code
def yX10_isEvent : MethodName := ⟨RX10, "isEvent", "(I)Z"⟩
abbrev cX10_go : ByteArray := prog_12_method_38_code
def yX10_go : MethodName := ⟨RX10, "go", "(I)V"⟩
abbrev cX10_lower : ByteArray := prog_12_method_39_code
def yX10_lower : MethodName := ⟨RX10, "lower", "(JJ)J"⟩
abbrev cX10_nanos : ByteArray := prog_12_method_40_code
def yX10_nanos : MethodName := ⟨RX10, "nanos", "(JI)J"⟩
abbrev cX10_event : ByteArray := prog_12_method_41_code
def yX10_event : MethodName := ⟨RX10, "event", "(II)J"⟩
abbrev cX10_constant : ByteArray := prog_12_method_42_code
def yX10_constant : MethodName := ⟨RX10, "constant", "(JJ)I"⟩
abbrev cX10_settle : ByteArray := prog_12_method_43_code
def yX10_settle : MethodName := ⟨RX10, "settle", "()V"⟩
abbrev cX10_spotStructure : ByteArray := prog_12_method_44_code
def yX10_spotStructure : MethodName := ⟨RX10, "spotStructure", "()I"⟩
abbrev cX10_step : ByteArray := prog_12_method_45_code
def yX10_step : MethodName := ⟨RX10, "step", "(I)V"⟩
abbrev cX10_come : ByteArray := prog_12_method_46_code
def yX10_come : MethodName := ⟨RX10, "come", "(JI)V"⟩
abbrev cX10_lead : ByteArray := prog_12_method_47_code
def yX10_lead : MethodName := ⟨RX10, "lead", "(II)I"⟩
abbrev cX10_kind : ByteArray := prog_12_method_48_code
def yX10_kind : MethodName := ⟨RX10, "kind", "(II)I"⟩
abbrev cX10_worth : ByteArray := prog_12_method_49_code
def yX10_worth : MethodName := ⟨RX10, "worth", "()J"⟩
abbrev cX10_characterAt : ByteArray := prog_12_method_50_code
def yX10_characterAt : MethodName := ⟨RX10, "characterAt", "(I)I"⟩
abbrev cX10_value : ByteArray := prog_12_method_51_code
def yX10_value : MethodName := ⟨RX10, "value", "(II)J"⟩
abbrev cX10_letter : ByteArray := prog_12_method_52_code
def yX10_letter : MethodName := ⟨RX10, "letter", "(III)I"⟩
abbrev cX10_type : ByteArray := prog_12_method_53_code
def yX10_type : MethodName := ⟨RX10, "type", "(C)Z"⟩
abbrev cX10_letterAt : ByteArray := prog_12_method_54_code
def yX10_letterAt : MethodName := ⟨RX10, "letterAt", "(I)I"⟩
abbrev cX10_isDigit : ByteArray := prog_12_method_55_code
def yX10_isDigit : MethodName := ⟨RX10, "isDigit", "(I)Z"⟩
abbrev cX10_isStep : ByteArray := prog_12_method_56_code
def yX10_isStep : MethodName := ⟨RX10, "isStep", "(I)Z"⟩
abbrev cX10_isOperator : ByteArray := prog_12_method_57_code
def yX10_isOperator : MethodName := ⟨RX10, "isOperator", "(I)Z"⟩
abbrev cX10_filter : ByteArray := prog_12_method_58_code
def yX10_filter : MethodName := ⟨RX10, "filter", "()I"⟩
abbrev cX10_comparison : ByteArray := prog_12_method_59_code
def yX10_comparison : MethodName := ⟨RX10, "comparison", "(I)I"⟩
abbrev cX10_isNumber : ByteArray := prog_12_method_60_code
def yX10_isNumber : MethodName := ⟨RX10, "isNumber", "(II)Z"⟩
abbrev cX10_passes : ByteArray := prog_12_method_61_code
def yX10_passes : MethodName := ⟨RX10, "passes", "(I)Z"⟩
abbrev cX10_select : ByteArray := prog_12_method_62_code
def yX10_select : MethodName := ⟨RX10, "select", "(Z)I"⟩
abbrev cX10_misfit : ByteArray := prog_12_method_63_code
def yX10_misfit : MethodName := ⟨RX10, "misfit", "()I"⟩
abbrev cX10_selected : ByteArray := prog_12_method_64_code
def yX10_selected : MethodName := ⟨RX10, "selected", "(I)I"⟩
abbrev cX10_gather : ByteArray := prog_12_method_65_code
def yX10_gather : MethodName := ⟨RX10, "gather", "(I)V"⟩
abbrev cX10_mean : ByteArray := prog_12_method_66_code
def yX10_mean : MethodName := ⟨RX10, "mean", "()J"⟩
abbrev cX10_fold : ByteArray := prog_12_method_67_code
def yX10_fold : MethodName := ⟨RX10, "fold", "(II)J"⟩
abbrev cX10_groupOf : ByteArray := prog_12_method_68_code
def yX10_groupOf : MethodName := ⟨RX10, "groupOf", "(J)I"⟩
abbrev cX10_group : ByteArray := prog_12_method_69_code
def yX10_group : MethodName := ⟨RX10, "group", "(II)I"⟩
abbrev cX10_join : ByteArray := prog_12_method_70_code
def yX10_join : MethodName := ⟨RX10, "join", "(IJ)V"⟩
abbrev cX10_grouped : ByteArray := prog_12_method_71_code
def yX10_grouped : MethodName := ⟨RX10, "grouped", "(II)J"⟩
def RJ9 : String := "java/lang/Math"
def TJ9 : u_T := fun k => match k with
  | _ => ("", "", "", false)
def tyJ9 : Nat → FieldType := fun k => match k with
  | _ => .int
abbrev wsJ90 : List Cond := u_ws RJ9 TJ9 0
theorem nmJ9 : ∀ a, a < 0 → ∀ b, b < 0 → a ≠ b → (TJ9 a).2.1 ≠ (TJ9 b).2.1 := by decide +kernel
theorem tyJ9_ok : ∀ k, k < 0 → parseFieldDescriptor (TJ9 k).2.2.1 = some (tyJ9 k) := by decide +kernel
abbrev cJ9_floorDiv_f86c9 : ByteArray := prog_16_method_49_code
def yJ9_floorDiv_f86c9 : MethodName := ⟨RJ9, "floorDiv", "(JJ)J"⟩
abbrev cJ9_floorMod_f86c9 : ByteArray := prog_16_method_52_code
def yJ9_floorMod_f86c9 : MethodName := ⟨RJ9, "floorMod", "(JJ)J"⟩
abbrev cJ9_max_7cf53 : ByteArray := prog_16_method_65_code
def yJ9_max_7cf53 : MethodName := ⟨RJ9, "max", "(II)I"⟩
abbrev cJ9_max_f86c9 : ByteArray := prog_16_method_66_code
def yJ9_max_f86c9 : MethodName := ⟨RJ9, "max", "(JJ)J"⟩
abbrev cJ9_min_f86c9 : ByteArray := prog_16_method_70_code
def yJ9_min_f86c9 : MethodName := ⟨RJ9, "min", "(JJ)J"⟩
def RL : String := "FlightReaderLaw"
abbrev cL_open : ByteArray := method_3_code
def yL_open : MethodName := ⟨RL, "open", "(LFlightReader;[J)I"⟩
abbrev cL_event : ByteArray := method_4_code
def yL_event : MethodName := ⟨RL, "event", "(LFlightReader;II[J)I"⟩
abbrev cL_kind : ByteArray := method_5_code
def yL_kind : MethodName := ⟨RL, "kind", "(LFlightReader;II[J)I"⟩
abbrev cL_value : ByteArray := method_6_code
def yL_value : MethodName := ⟨RL, "value", "(LFlightReader;II[J)I"⟩
abbrev cL_letter : ByteArray := method_7_code
def yL_letter : MethodName := ⟨RL, "letter", "(LFlightReader;III[J)I"⟩
abbrev cL_select : ByteArray := method_8_code
def yL_select : MethodName := ⟨RL, "select", "(LFlightReader;Z[J)I"⟩
abbrev cL_selected : ByteArray := method_9_code
def yL_selected : MethodName := ⟨RL, "selected", "(LFlightReader;I[J)I"⟩
abbrev cL_fold : ByteArray := method_10_code
def yL_fold : MethodName := ⟨RL, "fold", "(LFlightReader;II[J)I"⟩
abbrev cL_grouped : ByteArray := method_11_code
def yL_grouped : MethodName := ⟨RL, "grouped", "(LFlightReader;II[J)I"⟩
abbrev cL_law : ByteArray := code
def yL_law : MethodName := ⟨RL, "law", "([I)Z"⟩
abbrev vwCl : List vw_C := [(RX0, TX0, 9), (RX1, TX1, 10), (RX2, TX2, 12), (RX3, TX3, 7), (RX4, TX4, 7), (RX5, TX5, 8), (RX6, TX6, 2), (RX7, TX7, 7), (RX8, TX8, 7), (RX9, TX9, 10), (RX10, TX10, 58)]
end
section
/-! THE SMALL MACHINE (am_): the program's own instructions over a small heap, without the machine's tables. Its cells are numbered in the order in which they are made; a throw is an outcome with the class's name.
Parts 05 and on prove: what the small machine does, the machine does. Everything about the program itself is said of the small machine. -/
abbrev am_C : Type := (Nat × vp_A) ⊕ (Nat × List Value)
/-- how many cells there are, what each holds, cells and slots made so far -/
abbrev am_S : Type := Nat × (Nat → am_C) × Nat × Nat
abbrev am_L : Type := List (Option Value)
/-- an instruction, its length, two numbers (class and field; callee and arguments; target), the place of its word, a constant -/
abbrev am_I : Type := Instr × Nat × Nat × Nat × Nat × Int
abbrev am_O : Type := Option Value ⊕ String
abbrev am_R : Type := am_O × am_S
abbrev am_F : Type := Nat × am_L × List Value × am_S
/-- a method: its name, bytes, locals, what it returns, handlers (from, to, where, the constant's number, the class, the number given back) -/
abbrev am_M : Type := MethodName × ByteArray × Nat × Option FieldType × List (Nat × Nat × Nat × Nat × String × Int32)
def am_kind (v : Value) : Nat := match v with
  | .int _ => 0
  | .long _ => 1
  | .ref _ => 2
  | _ => 3
/-- a long that ends in place j is gone -/
def am_kill (L : am_L) (j : Nat) : am_L := match j with
  | 0 => L
  | i + 1 => match L[i]? with
    | some (some w) => if w.category = 2 then L.set i none else L
    | _ => L
def am_set (L : am_L) (j : Nat) (v : Value) : am_L := if v.category = 2 then ((am_kill L j).set j (some v)).set (j + 1) none else (am_kill L j).set j (some v)
def am_load (q k j : Nat) (L : am_L) (st : List Value) (S : am_S) : Option am_F := match L[j]? with
  | some (some v) => if am_kind v = k then some (q, L, v :: st, S) else none
  | _ => none
def am_store (q k j : Nat) (L : am_L) (st : List Value) (S : am_S) : Option am_F := match st with
  | v :: r => if am_kind v = k ∧ j + k % 2 < L.length then some (q, am_set L j v, r, S) else none
  | [] => none
def am_ib (op : Instr) (x y : Int32) : Option Int32 := match op with
  | .iadd => some (x + y)
  | .isub => some (x - y)
  | .imul => some (x * y)
  | .idiv => if y = 0 then none else some (x / y)
  | .irem => if y = 0 then none else some (x - x / y * y)
  | .iand => some (x &&& y)
  | .ior => some (x ||| y)
  | .ixor => some (x ^^^ y)
  | .ishl => some (x <<< (y &&& 31))
  | .ishr => some (x >>> (y &&& 31))
  | .iushr => some (x.toUInt32 >>> (y.toUInt32 &&& Int32.toUInt32 31)).toInt32
  | _ => none
def am_lb (op : Instr) (x y : Int64) : Option Value := match op with
  | .ladd => some (.long (x + y))
  | .lsub => some (.long (x - y))
  | .lmul => some (.long (x * y))
  | .ldiv => if y = 0 then none else some (.long (x / y))
  | .lrem => if y = 0 then none else some (.long (x - x / y * y))
  | .land => some (.long (x &&& y))
  | .lor => some (.long (x ||| y))
  | .lxor => some (.long (x ^^^ y))
  | .lcmp => some (.int (lg_cmp x y))
  | _ => none
def am_un (op : Instr) (v : Value) : Option Value := match op, v with
  | .ineg, .int x => some (.int (-x))
  | .lneg, .long x => some (.long (-x))
  | .i2l, .int x => some (.long x.toInt64)
  | .l2i, .long x => some (.int x.toInt32)
  | .i2c, .int x => some (.int (x.toUInt32 % 65536).toInt32)
  | .i2b, .int x => some (.int x.toInt8.toInt32)
  | .i2s, .int x => some (.int x.toInt16.toInt32)
  | _, _ => none
def am_c1 (o : ClassFile.Cond) (x : Int32) : Bool := match o with
  | .eq => decide (x = 0)
  | .ne => decide (¬ x = 0)
  | .lt => decide (x < 0)
  | .ge => decide (0 ≤ x)
  | .gt => decide (0 < x)
  | .le => decide (x ≤ 0)
def am_c2 (o : ClassFile.Cond) (x y : Int32) : Bool := match o with
  | .eq => decide (x = y)
  | .ne => decide (¬ x = y)
  | .lt => decide (x < y)
  | .ge => decide (y ≤ x)
  | .gt => decide (y < x)
  | .le => decide (x ≤ y)
def am_get (S : am_S) (a : Nat) : Option am_C := if a < S.1 then some (S.2.1 a) else none
def am_upd (S : am_S) (a : Nat) (x : am_C) : am_S := (S.1, fun k => if k = a then x else S.2.1 k, S.2.2.1, S.2.2.2)
def am_push (S : am_S) (x : am_C) (n : Nat) : am_S := (S.1 + 1, fun k => if k = S.1 then x else S.2.1 k, S.2.2.1 + 1, S.2.2.2 + n)
def am_thrown (S : am_S) : am_S := (S.1, S.2.1, S.2.2.1 + 1, S.2.2.2 + 6)
def am_in (j : Int32) (n : Nat) : Bool := decide (¬ (j < 0 ∨ n ≤ j.toNatClampNeg))
def am_sig (j : Nat) : Int32 := match j with
  | 0 => 70
  | 1 => 76
  | 2 => 82
  | 3 => 0
  | _ => 2
/-- the two arrays that are read alone: the script, SIGNATURE -/
def am_ro (X : Nat × (Nat → Int32)) (a : Nat) : Option (Nat × (Nat → Int32)) := if a = 1000000 then some X else if a = 1000001 then some (5, am_sig) else none
def am_ty (t : Nat) : FieldType := match t with
  | 0 => .int
  | 1 => .long
  | 2 => .byte
  | 3 => .char
  | 4 => .object RX1
  | _ => .object RX7
def am_zero (t : Nat) (n : Nat) : vp_A := match t with
  | 0 => (n, .inl (fun _ => 0))
  | 1 => (n, .inr (.inl (fun _ => 0)))
  | 2 => (n, .inl (fun _ => 0))
  | 3 => (n, .inl (fun _ => 0))
  | _ => (n, .inr (.inr (.inr (.inr (fun _ => none)))))
/-- the types of a class's fields -/
def am_fty (ci k : Nat) : FieldType := match ci with
  | 0 => tyX0 k
  | 1 => tyX1 k
  | 2 => tyX2 k
  | 3 => tyX3 k
  | 4 => tyX4 k
  | 5 => tyX5 k
  | 6 => tyX6 k
  | 7 => tyX7 k
  | 8 => tyX8 k
  | 9 => tyX9 k
  | _ => tyX10 k
def am_cn (ci : Nat) : Nat := match ci with
  | 0 => 9
  | 1 => 10
  | 2 => 12
  | 3 => 7
  | 4 => 7
  | 5 => 8
  | 6 => 2
  | 7 => 7
  | 8 => 7
  | 9 => 10
  | _ => 58
def am_blank (ci : Nat) : List Value := (List.range (am_cn ci)).map (fun k => defaultValue (am_fty ci k))
def am_aload (t : Nat) (q : Nat) (L : am_L) (st : List Value) (S : am_S) (X : Nat × (Nat → Int32)) : Option am_F := match st with
  | .int j :: .ref o :: r => match am_ro X o with
    | some (n, f) => if t = 0 ∧ am_in j n = true then some (q, L, .int (f j.toNatClampNeg) :: r, S) else none
    | none => match am_get S o with
      | some (.inl (u, n, .inl f)) => if u = t ∧ t ≠ 1 ∧ t < 4 ∧ am_in j n = true then some (q, L, .int (f j.toNatClampNeg) :: r, S) else none
      | some (.inl (u, n, .inr (.inl f))) => if u = 1 ∧ t = 1 ∧ am_in j n = true then some (q, L, .long (f j.toNatClampNeg) :: r, S) else none
      | some (.inl (u, n, .inr (.inr (.inr (.inr f))))) => if (u = 4 ∨ u = 5) ∧ t = 4 ∧ am_in j n = true then some (q, L, va_rf (f j.toNatClampNeg) :: r, S) else none
      | _ => none
  | _ => none
def am_astore (t : Nat) (q : Nat) (L : am_L) (st : List Value) (S : am_S) : Option am_F := match st with
  | .int x :: .int j :: .ref o :: r => match am_get S o with
    | some (.inl (u, n, .inl f)) => if u = t ∧ t ≠ 1 ∧ t < 4 ∧ am_in j n = true then some (q, L, r, am_upd S o (.inl (u, n, .inl (upd f j.toNatClampNeg (vp_nar (am_ty t) x))))) else none
    | _ => none
  | .long x :: .int j :: .ref o :: r => match am_get S o with
    | some (.inl (u, n, .inr (.inl f))) => if u = 1 ∧ t = 1 ∧ am_in j n = true then some (q, L, r, am_upd S o (.inl (u, n, .inr (.inl (vp_updL f j.toNatClampNeg x))))) else none
    | _ => none
  | .ref v :: .int j :: .ref o :: r => match am_get S o, am_get S v with
    | some (.inl (u, n, .inr (.inr (.inr (.inr f))))), some (.inr (ci, _)) => if (u = 4 ∧ ci = 1 ∨ u = 5 ∧ ci = 7) ∧ t = 4 ∧ am_in j n = true then some (q, L, r, am_upd S o (.inl (u, n, .inr (.inr (.inr (.inr (va_up f j.toNatClampNeg (some v)))))))) else none
    | _, _ => none
  | _ => none
def am_alen (q : Nat) (L : am_L) (st : List Value) (S : am_S) (X : Nat × (Nat → Int32)) : Option am_F := match st with
  | .ref o :: r => match am_ro X o with
    | some (n, _) => some (q, L, .int (Int32.ofNat n) :: r, S)
    | none => match am_get S o with
      | some (.inl (u, n, _)) => if u < 6 then some (q, L, .int (Int32.ofNat n) :: r, S) else none
      | _ => none
  | _ => none
def am_getf (ci k : Nat) (q : Nat) (L : am_L) (st : List Value) (S : am_S) : Option am_F := match st with
  | .ref o :: r => match am_get S o with
    | some (.inr (c, fs)) => if c = ci then (match fs[k]? with
      | some v => some (q, L, v :: r, S)
      | none => none) else none
    | _ => none
  | _ => none
def am_putf (ci k : Nat) (q : Nat) (L : am_L) (st : List Value) (S : am_S) : Option am_F := match st with
  | v :: .ref o :: r => match am_get S o with
    | some (.inr (c, fs)) => if c = ci ∧ k < fs.length ∧ narrow (am_fty ci k) v = v ∧ fits (am_fty ci k) v = true then some (q, L, r, am_upd S o (.inr (c, fs.set k v))) else none
    | _ => none
  | _ => none
def am_newa (t : Nat) (q : Nat) (L : am_L) (st : List Value) (S : am_S) : Option am_F := match st with
  | .int n :: r => if ¬ n < 0 ∧ n.toNatClampNeg * 8 ≤ 536870912 ∧ S.2.2.1 = S.1 ∧ S.1 < 1000000 ∧ t < 6 then some (q, L, .ref S.1 :: r, am_push S (.inl (t, am_zero t n.toNatClampNeg)) n.toNatClampNeg) else none
  | _ => none
def am_sw (op : Instr) (pc : Nat) (x : Int32) : Nat := match op with
  | .tableswitch dflt lo hi offs => if x.toInt < lo ∨ hi < x.toInt then ((pc : Int) + dflt).toNat else ((pc : Int) + (offs[(x.toInt - lo).toNat]?).getD 0).toNat
  | .lookupswitch dflt ps => ((pc : Int) + Op.lookupswitch.offset ps.toList dflt x.toInt).toNat
  | _ => 0
def am_step (X : Nat × (Nat → Int32)) (i : am_I) (pc : Nat) (L : am_L) (st : List Value) (S : am_S) : Option am_F := match i with
  | (op, len, a, b, _, cst) => match op with
    | .iconst n => some (pc + len, L, .int (Int32.ofInt n) :: st, S)
    | .bipush n => some (pc + len, L, .int (Int8.ofInt n).toInt32 :: st, S)
    | .sipush n => some (pc + len, L, .int (Int16.ofInt n).toInt32 :: st, S)
    | .lconst n => some (pc + len, L, .long (Int64.ofNat (n : Nat)) :: st, S)
    | .ldc _ => some (pc + len, L, .int (Int32.ofInt cst) :: st, S)
    | .ldc2_w _ => some (pc + len, L, .long (Int64.ofInt cst) :: st, S)
    | .iload j => am_load (pc + len) 0 j L st S
    | .iload_n j => am_load (pc + len) 0 (j : Nat) L st S
    | .lload j => am_load (pc + len) 1 j L st S
    | .lload_n j => am_load (pc + len) 1 (j : Nat) L st S
    | .aload j => am_load (pc + len) 2 j L st S
    | .aload_n j => am_load (pc + len) 2 (j : Nat) L st S
    | .istore j => am_store (pc + len) 0 j L st S
    | .istore_n j => am_store (pc + len) 0 (j : Nat) L st S
    | .lstore j => am_store (pc + len) 1 j L st S
    | .lstore_n j => am_store (pc + len) 1 (j : Nat) L st S
    | .astore j => am_store (pc + len) 2 j L st S
    | .astore_n j => am_store (pc + len) 2 (j : Nat) L st S
    | .iinc j n => match L[j]? with
      | some (some (.int x)) => some (pc + len, am_set L j (.int (x + Int32.ofInt n)), st, S)
      | _ => none
    | .iadd | .isub | .imul | .idiv | .irem | .iand | .ior | .ixor | .ishl | .ishr | .iushr => match st with
      | .int y :: .int x :: r => (match am_ib op x y with
        | some v => some (pc + len, L, .int v :: r, S)
        | none => none)
      | _ => none
    | .ladd | .lsub | .lmul | .ldiv | .lrem | .land | .lor | .lxor | .lcmp => match st with
      | .long y :: .long x :: r => (match am_lb op x y with
        | some v => some (pc + len, L, v :: r, S)
        | none => none)
      | _ => none
    | .lshl => match st with
      | .int y :: .long x :: r => some (pc + len, L, .long (x <<< (y.toInt64 &&& 63)) :: r, S)
      | _ => none
    | .ineg | .lneg | .i2l | .l2i | .i2c | .i2b | .i2s => match st with
      | v :: r => (match am_un op v with
        | some w => some (pc + len, L, w :: r, S)
        | none => none)
      | _ => none
    | .dup => match st with
      | v :: r => if v.category = 1 then some (pc + len, L, v :: v :: r, S) else none
      | _ => none
    | .dup2 => match st with
      | v :: r => if v.category = 2 then some (pc + len, L, v :: v :: r, S) else (match r with
        | w :: r2 => if v.category = 1 ∧ w.category = 1 then some (pc + len, L, v :: w :: v :: w :: r2, S) else none
        | [] => none)
      | _ => none
    | .pop => match st with
      | v :: r => if v.category = 1 then some (pc + len, L, r, S) else none
      | _ => none
    | .pop2 => match st with
      | v :: r => if v.category = 2 then some (pc + len, L, r, S) else none
      | _ => none
    | .goto _ => some (a, L, st, S)
    | .ifCond o _ => match st with
      | .int x :: r => some (if am_c1 o x = true then a else pc + len, L, r, S)
      | _ => none
    | .if_icmp o _ => match st with
      | .int y :: .int x :: r => some (if am_c2 o x y = true then a else pc + len, L, r, S)
      | _ => none
    | .tableswitch _ _ _ _ | .lookupswitch _ _ => match st with
      | .int x :: r => some (am_sw op pc x, L, r, S)
      | _ => none
    | .iaload => am_aload 0 (pc + len) L st S X
    | .laload => am_aload 1 (pc + len) L st S X
    | .baload => am_aload 2 (pc + len) L st S X
    | .caload => am_aload 3 (pc + len) L st S X
    | .aaload => am_aload 4 (pc + len) L st S X
    | .iastore => am_astore 0 (pc + len) L st S
    | .lastore => am_astore 1 (pc + len) L st S
    | .bastore => am_astore 2 (pc + len) L st S
    | .castore => am_astore 3 (pc + len) L st S
    | .aastore => am_astore 4 (pc + len) L st S
    | .arraylength => am_alen (pc + len) L st S X
    | .getfield _ => am_getf a b (pc + len) L st S
    | .putfield _ => am_putf a b (pc + len) L st S
    | .getstatic _ => some (pc + len, L, .ref 1000001 :: st, S)
    | .new _ => if a < 11 ∧ S.2.2.1 = S.1 ∧ S.1 < 1000000 then some (pc + len, L, .ref S.1 :: st, am_push S (.inr (a, am_blank a)) (am_cn a)) else none
    | .newarray _ => am_newa a (pc + len) L st S
    | .anewarray _ => am_newa a (pc + len) L st S
    | .invokespecial _ => if a = 99999 then (match st with
      | .ref _ :: r => if (r.map fun v => v.category).sum ≤ 8 then some (pc + len, L, r, S) else none
      | _ => none) else none
    | _ => none
/-- a method's end: what it gives back, or the class that it throws -/
def am_end (ret : Option FieldType) (i : am_I) (st : List Value) (S : am_S) : Option am_R := match i with
  | (op, _, a, _, _, _) => match op with
    | .ireturn => match st, ret with
      | [.int v], some ty => if narrow ty (.int v) = .int v then some (.inl (some (.int v)), S) else none
      | _, _ => none
    | .lreturn => match st, ret with
      | [.long v], some .long => some (.inl (some (.long v)), S)
      | _, _ => none
    | .return_ => match st, ret with
      | [], none => some (.inl none, S)
      | _, _ => none
    | .new _ => if st = [] then (match a with
      | 100 => some (.inr "java/lang/IllegalArgumentException", am_thrown S)
      | 101 => some (.inr "java/lang/IndexOutOfBoundsException", am_thrown S)
      | 102 => some (.inr "java/util/NoSuchElementException", am_thrown S)
      | _ => none) else none
    | _ => none
def am_isCall (op : Instr) : Bool := match op with
  | .invokevirtual _ => true
  | .invokespecial _ => true
  | .invokestatic _ => true
  | _ => false
/-- the arguments of a call, the first one first, and what stays on the stack -/
def am_args (i : am_I) (st : List Value) : Option (List Value × List Value) := match i with
  | (_, _, _, b, _, _) => if b ≤ st.length ∧ ((st.drop b).map fun v => v.category).sum ≤ 8 then some ((st.take b).reverse, st.drop b) else none
def am_find (hs : List (Nat × Nat × Nat × Nat × String × Int32)) (pc : Nat) (E : String) : Option Int32 := match hs with
  | [] => none
  | h :: r => if h.1 ≤ pc ∧ pc < h.2.1 ∧ h.2.2.2.2.1 = E then some h.2.2.2.2.2 else am_find r pc E
/-- the receiver of a call is an object of the class that has the method -/
def am_recv (M : Nat → am_M) (i : am_I) (as : List Value) (S : am_S) : Bool := match i.1, as with
  | .invokevirtual _, .ref o :: _ => (match am_get S o with
    | some (.inr (ci, _)) => decide ((vwCl[ci]?).map (fun q => q.1) = some (M i.2.2.1).1.cls)
    | _ => false)
  | .invokespecial _, .ref _ :: _ => true
  | .invokestatic _, _ => true
  | _, _ => false
def am_flat (as : List Value) : am_L := as.flatMap (fun v => if v.category = 2 then [some v, none] else [some v])
def am_entry (n : Nat) (as : List Value) : am_L := am_flat as ++ List.replicate (n - (am_flat as).length) none
def am_go (P : Nat → Nat → Option am_I) (M : Nat → am_M) (X : Nat × (Nat → Int32)) (ev : Nat → List Value → am_S → am_R → Prop) (k : Nat) : Nat → Nat → am_L → List Value → am_S → am_R → Prop
  | 0, _, _, _, _, _ => False
  | n + 1, pc, L, st, S, r => ∃ i, P k pc = some i ∧
    ((∃ q : am_F, am_step X i pc L st S = some q ∧ am_go P M X ev k n q.1 q.2.1 q.2.2.1 q.2.2.2 r) ∨
     am_end (M k).2.2.2.1 i st S = some r ∨
     (am_isCall i.1 = true ∧ i.2.2.1 ≠ 99999 ∧ ∃ (as rest : List Value) (r1 : am_R), am_args i st = some (as, rest) ∧ am_recv M i as S = true ∧ ev i.2.2.1 as S r1 ∧
       match r1.1 with
       | .inl v => am_go P M X ev k n (pc + 3) L (v.toList ++ rest) r1.2 r
       | .inr E => ((M k).2.2.2.2 = [] ∧ r = (.inr E, r1.2)) ∨ (∃ x, am_find (M k).2.2.2.2 pc E = some x ∧ r = (.inl (some (.int x)), r1.2))))
def am_ev (P : Nat → Nat → Option am_I) (M : Nat → am_M) (X : Nat × (Nat → Int32)) : Nat → Nat → List Value → am_S → am_R → Prop
  | 0, _, _, _, _ => False
  | d + 1, k, as, S, r => (am_flat as).length ≤ (M k).2.2.1 ∧ ∃ n, am_go P M X (am_ev P M X d) k n 0 (am_entry (M k).2.2.1 as) [] S r
end
section
/-! the small machine's program is the machine's: what is looked up of each instruction; and how a small heap, its values and locals lie in the machine's -/
def am_gw : List Cond := lw_tbl.filter goodWord
def am_nwK (w : Cond) : Bool := match w with
  | .methodLinkNest .. => true
  | .declares _ => true
  | .castable .. => true
  | _ => false
def am_nw : List Cond := lw_tbl.filter am_nwK
def am_word (w : Nat) (x : Cond) : Bool := decide (lw_tbl[w]? = some x)
theorem am_word_in {w : Nat} {x : Cond} (h : am_word w x = true) : x ∈ lw_tbl := List.mem_of_getElem? (of_decide_eq_true h)
theorem am_word_gw {w : Nat} {x : Cond} (h : am_word w x = true) (hg : goodWord x = true) : x ∈ am_gw := List.mem_filter.mpr ⟨am_word_in h, hg⟩
def am_len (op : Instr) : Nat := match op with
  | .bipush _ | .ldc _ | .iload _ | .lload _ | .aload _ | .istore _ | .lstore _ | .astore _ | .newarray _ => 2
  | .sipush _ | .ldc2_w _ | .iinc _ _ | .goto _ | .ifCond _ _ | .if_icmp _ _ | .getfield _ | .putfield _ | .getstatic _ | .new _ | .anewarray _ | .invokevirtual _ | .invokespecial _ | .invokestatic _ => 3
  | _ => 1
def am_exc (a : Nat) : String := match a with
  | 100 => "java/lang/IllegalArgumentException"
  | 101 => "java/lang/IndexOutOfBoundsException"
  | _ => "java/util/NoSuchElementException"
def am_names : List String := ["java/lang/RuntimeException", "java/lang/Exception"]
/-- the places from which the program throws: the class that holds the constant, its number, the class thrown -/
def am_thr : List (String × Nat × String) := [(RX5, 39, am_exc 100), (RX9, 125, am_exc 100), (RX9, 155, am_exc 101), (RX9, 135, am_exc 102)]
def am_chk2 (M : Nat → am_M) (k pc : Nat) (i : am_I) : Bool := match i with
  | (op, len, a, b, w, cst) => match op with
    | .ldc x => am_word w (.constant (M k).1.cls x (Int32.ofInt cst))
    | .ldc2_w x => am_word w (.constantLong (M k).1.cls x (Int64.ofInt cst))
    | .goto off => decide ((pc : Int) + off = (a : Int))
    | .ifCond _ off => decide ((pc : Int) + off = (a : Int))
    | .if_icmp _ off => decide ((pc : Int) + off = (a : Int))
    | .tableswitch dflt lo hi offs => decide (0 ≤ (pc : Int) + dflt) && offs.toList.all (fun o => decide (0 ≤ (pc : Int) + o)) && decide (hi - lo < offs.size)
    | .lookupswitch dflt ps => (ps.toList.zip (ps.toList.drop 1)).all (fun (a, next) => a.1 < next.1) && decide (0 ≤ (pc : Int) + dflt) && ps.toList.all (fun o => decide (0 ≤ (pc : Int) + o.2))
    | .getfield x => (match vwCl[a]? with
      | some q => am_word w (.fieldLink (M k).1.cls x (q.2.1 b).1 (q.2.1 b).2.1 (q.2.1 b).2.2.1) && decide (b < q.2.2)
      | none => false)
    | .putfield x => (match vwCl[a]? with
      | some q => am_word w (.fieldLink (M k).1.cls x (q.2.1 b).1 (q.2.1 b).2.1 (q.2.1 b).2.2.1) && decide (b < q.2.2) && (!(q.2.1 b).2.2.2 || (decide ((M k).1.name = "<init>") && decide ((q.2.1 b).1 = (M k).1.cls)))
      | none => false)
    | .getstatic x => am_word w (.fieldLink (M k).1.cls x RX1 "SIGNATURE" "[I")
    | .new x => if a < 11 then (match vwCl[a]? with
      | some q => am_word w (.classLink (M k).1.cls x q.1)
      | none => false) else (decide (a = 100 ∨ a = 101 ∨ a = 102) && am_word w (.classLink (M k).1.cls x (am_exc a)) && decide (((M k).1.cls, b, am_exc a) ∈ am_thr) && decide (decode (M k).2.1 (pc + 3) = .ok (.dup, 1)) && decide (decode (M k).2.1 (pc + 4) = .ok (.invokespecial b, 3)) && decide (decode (M k).2.1 (pc + 7) = .ok (.athrow, 1)) && (M k).2.2.2.2.isEmpty)
    | .newarray t => decide (a < 4) && decide (newarray.typeOf t = am_ty a)
    | .anewarray x => (decide (a = 4) && am_word w (.classLink (M k).1.cls x RX1)) || (decide (a = 5) && am_word w (.classLink (M k).1.cls x RX7))
    | .invokespecial x => if a = 99999 then am_word w (.methodLink (M k).1.cls x objectInit) else
        (decide ((M a).1.name = "<init>") && decide ((parseMethodDescriptor (M a).1.desc).map (fun d => d.parameters.length + 1) = some b) && (am_word w (.methodLink (M k).1.cls x (M a).1) || am_word w (.methodLinkNest (M k).1.cls x (M a).1 "FlightReader")))
    | .invokevirtual x => decide ((parseMethodDescriptor (M a).1.desc).map (fun d => d.parameters.length + 1) = some b) && decide (a ≠ 99999) && (am_word w (.methodLink (M k).1.cls x (M a).1) || am_word w (.methodLinkNest (M k).1.cls x (M a).1 "FlightReader"))
    | .invokestatic x => decide ((parseMethodDescriptor (M a).1.desc).map (fun d => d.parameters.length) = some b) && decide (a ≠ 99999) && am_word w (.methodLink (M k).1.cls x (M a).1)
    | _ => true
def am_sws (op : Instr) : Bool := match op with
  | .tableswitch .. => true
  | .lookupswitch .. => true
  | _ => false
def am_chk (M : Nat → am_M) (k pc : Nat) (i : am_I) : Bool := decide (decode (M k).2.1 pc = .ok (i.1, i.2.1)) && (am_sws i.1 || decide (i.2.1 = am_len i.1)) && am_chk2 M k pc i
theorem am_chk_sp {M : Nat → am_M} {k pc : Nat} {i : am_I} (h : am_chk M k pc i = true) : decode (M k).2.1 pc = .ok (i.1, i.2.1) ∧ (am_sws i.1 = true ∨ i.2.1 = am_len i.1) ∧ am_chk2 M k pc i = true := by
  simp only [am_chk, Bool.and_eq_true, Bool.or_eq_true, decide_eq_true_eq] at h
  exact ⟨h.1.1, h.1.2, h.2⟩
def am_hh (M : Nat → am_M) (k : Nat) : List (Nat × Nat × Nat × Nat) := (M k).2.2.2.2.map (fun h => (h.1, h.2.1, h.2.2.1, h.2.2.2.1))
def am_cw (M : Nat → am_M) (k : Nat) : Cond := if (M k).2.2.2.2 = [] then .code (M k).1 (M k).2.1 (M k).2.2.1 (M k).2.2.2.1 else .codeWith (M k).1 (M k).2.1 (M k).2.2.1 (M k).2.2.2.1 (am_hh M k)
/-- what the tables say of a method: kind 0 called on an object, 1 static, 2 a constructor; a handler gives back its number at once -/
def am_mok (M : Nat → am_M) (kd : Nat → Nat) (k : Nat) : Prop :=
  am_cw M k ∈ am_gw ∧ Cond.initialized (M k).1.cls ∈ am_gw ∧ (M k).2.2.1 ≤ 40 ∧ plainFor (M k).1 = true ∧ ((M k).1.cls ≠ "java/lang/invoke/MethodHandle" ∧ (M k).1.cls ≠ "java/lang/invoke/VarHandle") ∧
  (kd k = 0 → Cond.instanceMethod (M k).1 ∈ am_gw ∧ Cond.selects (M k).1.cls (M k).1 (M k).1 ∈ am_gw ∧ (M k).2.2.2.2 = []) ∧ (kd k = 1 → Cond.static (M k).1 ∈ am_gw) ∧ (kd k = 2 → Cond.instanceMethod (M k).1 ∈ am_gw ∧ (M k).1.name = "<init>" ∧ (M k).2.2.2.1 = none ∧ (M k).2.2.2.2 = [])
end
section
/-! the program as the small machine has it: printed by wip/whole/gen_prog.py out of the claim's own names -/
def am_ms : List am_M := [
  (yX0_init, cX0_init, 1, none, []),
  (yX0_clear, cX0_clear, 1, none, []),
  (yX0_read, cX0_read, 11, none, []),
  (yX0_link, cX0_link, 7, none, []),
  (yX0_startingAt, cX0_startingAt, 3, (some .int), []),
  (yX1_init, cX1_init, 2, none, []),
  (yX1_readHeader, cX1_readHeader, 4, none, []),
  (yX1_readMetadata, cX1_readMetadata, 8, none, []),
  (yX1_fieldsHaveTypes, cX1_fieldsHaveTypes, 4, (some .boolean), []),
  (yX1_someHoldItself, cX1_someHoldItself, 4, (some .boolean), []),
  (yX1_holdsOnly, cX1_holdsOnly, 6, (some .boolean), []),
  (yX1_typeWithId, cX1_typeWithId, 3, (some .int), []),
  (yX1_isPlain, cX1_isPlain, 2, (some .boolean), []),
  (yX1_isStructure, cX1_isStructure, 3, (some .boolean), []),
  (yX1_isForEvents, cX1_isForEvents, 3, (some .boolean), []),
  (yX1_addConstant, cX1_addConstant, 5, none, []),
  (yX1_constant, cX1_constant, 5, (some .int), []),
  (yX2_init, cX2_init, 1, none, []),
  (yX2_append, cX2_append, 2, (some .boolean), []),
  (yX2_read, cX2_read, 3, (some .int), []),
  (yX2_stateAfter, cX2_stateAfter, 2, (some .int), []),
  (yX2_takeName, cX2_takeName, 2, (some .int), []),
  (yX2_takeStep, cX2_takeStep, 2, (some .int), []),
  (yX2_takeDot, cX2_takeDot, 1, (some .int), []),
  (yX2_takeSign, cX2_takeSign, 2, (some .int), []),
  (yX2_takeMinus, cX2_takeMinus, 1, (some .int), []),
  (yX2_takeDigit, cX2_takeDigit, 3, (some .int), []),
  (yX2_passes, cX2_passes, 6, (some .boolean), []),
  (yX2_holds, cX2_holds, 6, (some .boolean), []),
  (yX3_init, cX3_init, 1, none, []),
  (yX3_clear, cX3_clear, 1, none, []),
  (yX3_enter, cX3_enter, 4, (some .int), []),
  (yX3_add, cX3_add, 4, none, []),
  (yX4_init, cX4_init, 2, none, []),
  (yX4_clear, cX4_clear, 1, none, []),
  (yX4_readChunk, cX4_readChunk, 8, (some .int), []),
  (yX4_readEvent, cX4_readEvent, 5, none, []),
  (yX4_nanosSinceStart, cX4_nanosSinceStart, 7, (some .long), []),
  (yX4_find, cX4_find, 7, (some .int), []),
  (yX4_constantFor, cX4_constantFor, 5, (some .int), []),
  (yX4_isKey, cX4_isKey, 2, (some .boolean), []),
  (yX5_init, cX5_init, 1, none, []),
  (yX5_append, cX5_append, 4, (some .boolean), []),
  (yX5_rewind, cX5_rewind, 1, (some .int), []),
  (yX5_fail, cX5_fail, 3, none, []),
  (yX5_byteAt, cX5_byteAt, 2, (some .int), []),
  (yX5_fixedAt, cX5_fixedAt, 6, (some .long), []),
  (yX5_fixed, cX5_fixed, 3, (some .long), []),
  (yX5_oneByte, cX5_oneByte, 1, (some .int), []),
  (yX5_number, cX5_number, 6, (some .long), []),
  (yX5_count, cX5_count, 4, (some .int), []),
  (yX5_head, cX5_head, 5, (some .int), []),
  (yX5_requireEventEnd, cX5_requireEventEnd, 1, none, []),
  (yX5_utf8, cX5_utf8, 8, (some .char), []),
  (yX6_init, cX6_init, 1, none, []),
  (yX6_add, cX6_add, 4, none, []),
  (yX6_sum, cX6_sum, 4, (some .long), []),
  (yX6_inOrder, cX6_inOrder, 2, (some .long), []),
  (yX6_mean, cX6_mean, 8, (some .long), []),
  (yX7_init, cX7_init, 1, none, []),
  (yX7_read, cX7_read, 7, none, []),
  (yX7_readField, cX7_readField, 5, none, []),
  (yX7_fieldNamed, cX7_fieldNamed, 3, (some .int), []),
  (yX8_init, cX8_init, 1, none, []),
  (yX8_clear, cX8_clear, 1, none, []),
  (yX8_read, cX8_read, 10, (some .int), []),
  (yX8_put, cX8_put, 6, none, []),
  (yX8_readPlain, cX8_readPlain, 3, (some .long), []),
  (yX8_readText, cX8_readText, 10, none, []),
  (yX8_addLetter, cX8_addLetter, 2, none, []),
  (yX8_isNumber, cX8_isNumber, 2, (some .boolean), []),
  (yX8_part, cX8_part, 7, (some .int), []),
  (yX9_init, cX9_init, 1, none, []),
  (yX9_feed, cX9_feed, 3, (some .boolean), []),
  (yX9_open, cX9_open, 4, (some .int), []),
  (yX9_fault, cX9_fault, 2, (some .int), []),
  (yX9_chunks, cX9_chunks, 1, (some .int), []),
  (yX9_event, cX9_event, 3, (some .long), []),
  (yX9_kind, cX9_kind, 4, (some .int), []),
  (yX9_value, cX9_value, 4, (some .long), []),
  (yX9_letter, cX9_letter, 5, (some .int), []),
  (yX9_type, cX9_type, 2, (some .boolean), []),
  (yX9_select, cX9_select, 4, (some .int), []),
  (yX9_misfit, cX9_misfit, 1, (some .int), []),
  (yX9_selected, cX9_selected, 2, (some .int), []),
  (yX9_fold, cX9_fold, 3, (some .long), []),
  (yX9_group, cX9_group, 7, (some .int), []),
  (yX9_grouped, cX9_grouped, 3, (some .long), []),
  (yX9_requireEvent, cX9_requireEvent, 2, none, []),
  (yX9_chooseAll, cX9_chooseAll, 2, none, []),
  (yX9_tallyChosen, cX9_tallyChosen, 4, none, []),
  (yX10_init, cX10_init, 1, none, []),
  (yX10_thrown, cX10_thrown, 1, (some .int), []),
  (yX10_fails, cX10_fails, 2, (some .int), []),
  (yX10_feed, cX10_feed, 4, (some .boolean), []),
  (yX10_get, cX10_get, 2, (some .int), []),
  (yX10_wrong, cX10_wrong, 3, none, []),
  (yX10_next, cX10_next, 1, (some .int), []),
  (yX10_compressed, cX10_compressed, 7, (some .long), []),
  (yX10_small, cX10_small, 4, (some .int), []),
  (yX10_two, cX10_two, 2, (some .int), []),
  (yX10_four, cX10_four, 2, (some .long), []),
  (yX10_typeOf, cX10_typeOf, 6, (some .int), []),
  (yX10_fieldOf, cX10_fieldOf, 4, (some .int), []),
  (yX10_push, cX10_push, 5, none, []),
  (yX10_counted, cX10_counted, 1, none, []),
  (yX10_begin, cX10_begin, 5, none, []),
  (yX10_finish, cX10_finish, 4, none, []),
  (yX10_pass, cX10_pass, 4, none, []),
  (yX10_plain, cX10_plain, 3, none, []),
  (yX10_text, cX10_text, 6, none, []),
  (yX10_character, cX10_character, 8, (some .int), []),
  (yX10_open, cX10_open, 5, (some .int), []),
  (yX10_header, cX10_header, 3, none, []),
  (yX10_chunk, cX10_chunk, 9, (some .int), []),
  (yX10_begins, cX10_begins, 4, (some .int), []),
  (yX10_metadata, cX10_metadata, 7, none, []),
  (yX10_typeTold, cX10_typeTold, 9, none, []),
  (yX10_fieldTold, cX10_fieldTold, 8, none, []),
  (yX10_structures, cX10_structures, 9, none, []),
  (yX10_held, cX10_held, 9, (some .boolean), []),
  (yX10_checkpoint, cX10_checkpoint, 10, (some .int), []),
  (yX10_toldEvent, cX10_toldEvent, 5, none, []),
  (yX10_isCheckpoint, cX10_isCheckpoint, 5, (some .boolean), []),
  (yX10_chain, cX10_chain, 8, none, []),
  (yX10_fault, cX10_fault, 2, (some .int), []),
  (yX10_chunks, cX10_chunks, 1, (some .int), []),
  (yX10_isEvent, cX10_isEvent, 2, (some .boolean), []),
  (yX10_go, cX10_go, 2, none, []),
  (yX10_lower, cX10_lower, 4, (some .long), []),
  (yX10_nanos, cX10_nanos, 12, (some .long), []),
  (yX10_event, cX10_event, 5, (some .long), []),
  (yX10_constant, cX10_constant, 16, (some .int), []),
  (yX10_settle, cX10_settle, 8, none, []),
  (yX10_spotStructure, cX10_spotStructure, 1, (some .int), []),
  (yX10_step, cX10_step, 5, none, []),
  (yX10_come, cX10_come, 4, none, []),
  (yX10_lead, cX10_lead, 6, (some .int), []),
  (yX10_kind, cX10_kind, 3, (some .int), []),
  (yX10_worth, cX10_worth, 3, (some .long), []),
  (yX10_characterAt, cX10_characterAt, 7, (some .int), []),
  (yX10_value, cX10_value, 3, (some .long), []),
  (yX10_letter, cX10_letter, 5, (some .int), []),
  (yX10_type, cX10_type, 2, (some .boolean), []),
  (yX10_letterAt, cX10_letterAt, 2, (some .int), []),
  (yX10_isDigit, cX10_isDigit, 1, (some .boolean), []),
  (yX10_isStep, cX10_isStep, 1, (some .boolean), []),
  (yX10_isOperator, cX10_isOperator, 1, (some .boolean), []),
  (yX10_filter, cX10_filter, 3, (some .int), []),
  (yX10_comparison, cX10_comparison, 11, (some .int), []),
  (yX10_isNumber, cX10_isNumber, 4, (some .boolean), []),
  (yX10_passes, cX10_passes, 7, (some .boolean), []),
  (yX10_select, cX10_select, 6, (some .int), []),
  (yX10_misfit, cX10_misfit, 1, (some .int), []),
  (yX10_selected, cX10_selected, 2, (some .int), []),
  (yX10_gather, cX10_gather, 6, none, []),
  (yX10_mean, cX10_mean, 8, (some .long), []),
  (yX10_fold, cX10_fold, 6, (some .long), []),
  (yX10_groupOf, cX10_groupOf, 4, (some .int), []),
  (yX10_group, cX10_group, 5, (some .int), []),
  (yX10_join, cX10_join, 5, none, []),
  (yX10_grouped, cX10_grouped, 3, (some .long), []),
  (yJ9_floorDiv_f86c9, cJ9_floorDiv_f86c9, 6, (some .long), []),
  (yJ9_floorMod_f86c9, cJ9_floorMod_f86c9, 6, (some .long), []),
  (yJ9_max_7cf53, cJ9_max_7cf53, 2, (some .int), []),
  (yJ9_max_f86c9, cJ9_max_f86c9, 4, (some .long), []),
  (yJ9_min_f86c9, cJ9_min_f86c9, 4, (some .long), []),
  (yL_open, cL_open, 3, (some .int), [(0, 8, 11, 13, "java/lang/IllegalArgumentException", 1)]),
  (yL_event, cL_event, 5, (some .int), [(0, 9, 12, 19, "java/lang/IndexOutOfBoundsException", 1), (0, 9, 16, 13, "java/lang/IllegalArgumentException", 2)]),
  (yL_kind, cL_kind, 5, (some .int), [(0, 10, 13, 19, "java/lang/IndexOutOfBoundsException", 1)]),
  (yL_value, cL_value, 5, (some .int), [(0, 9, 12, 19, "java/lang/IndexOutOfBoundsException", 1), (0, 9, 16, 28, "java/util/NoSuchElementException", 2)]),
  (yL_letter, cL_letter, 6, (some .int), [(0, 12, 15, 19, "java/lang/IndexOutOfBoundsException", 1), (0, 12, 19, 28, "java/util/NoSuchElementException", 2), (0, 12, 23, 13, "java/lang/IllegalArgumentException", 3)]),
  (yL_select, cL_select, 4, (some .int), [(0, 9, 12, 13, "java/lang/IllegalArgumentException", 1)]),
  (yL_selected, cL_selected, 4, (some .int), [(0, 9, 12, 19, "java/lang/IndexOutOfBoundsException", 1)]),
  (yL_fold, cL_fold, 5, (some .int), [(0, 9, 12, 13, "java/lang/IllegalArgumentException", 1), (0, 9, 16, 28, "java/util/NoSuchElementException", 2)]),
  (yL_grouped, cL_grouped, 5, (some .int), [(0, 9, 12, 19, "java/lang/IndexOutOfBoundsException", 1), (0, 9, 16, 13, "java/lang/IllegalArgumentException", 2)]),
  (yL_law, cL_law, 8, (some .boolean), [])]
def am_M0 : am_M := (yL_law, cL_law, 8, some .boolean, [])
def am_M1 (k : Nat) : am_M := (am_ms[k]?).getD am_M0
def am_kds : List Nat := [2, 0, 0, 0, 0, 2, 0, 0, 0, 0, 0, 0, 0, 0, 0, 0, 0, 2, 0, 0, 0, 0, 0, 0, 0, 0, 0, 0, 0, 2, 0, 0, 0, 2, 0, 0, 0, 0, 0, 0, 0, 2, 0, 0, 0, 0, 0, 0, 0, 0, 0, 0, 0, 0, 2, 0, 0, 0, 0, 2, 0, 0, 0, 2, 0, 0, 0, 0, 0, 0, 0, 0, 2, 0, 0, 0, 0, 0, 0, 0, 0, 0, 0, 0, 0, 0, 0, 0, 0, 0, 0, 2, 0, 0, 0, 0, 0, 0, 0, 0, 0, 0, 0, 0, 0, 0, 0, 0, 0, 0, 0, 0, 0, 0, 0, 0, 0, 0, 0, 0, 0, 0, 0, 0, 0, 0, 0, 0, 0, 1, 0, 0, 0, 0, 0, 0, 0, 0, 0, 0, 0, 0, 0, 0, 0, 1, 1, 1, 0, 0, 0, 0, 0, 0, 0, 0, 0, 0, 0, 0, 0, 0, 1, 1, 1, 1, 1, 1, 1, 1, 1, 1, 1, 1, 1, 1, 3]
def am_kd (k : Nat) : Nat := (am_kds[k]?).getD 3
def am_q0 : List (Option am_I) := [some (.aload_n 0, 1, 0, 0, 0, 0), some (.invokespecial 3, 3, 99999, 0, 150, 0), none, none, some (.aload_n 0, 1, 0, 0, 0, 0), some (.iconst 0, 1, 0, 0, 0, 0), some (.putfield 9, 3, 0, 0, 151, 0), none, none, some (.aload_n 0, 1, 0, 0, 0, 0), some (.sipush 240, 3, 0, 0, 0, 0), none, none, some (.newarray .int, 2, 0, 0, 0, 0), none, some (.putfield 15, 3, 0, 1, 152, 0), none, none, some (.aload_n 0, 1, 0, 0, 0, 0), some (.sipush 240, 3, 0, 0, 0, 0), none, none, some (.newarray .int, 2, 0, 0, 0, 0), none, some (.putfield 19, 3, 0, 2, 153, 0), none, none, some (.aload_n 0, 1, 0, 0, 0, 0), some (.sipush 240, 3, 0, 0, 0, 0), none, none, some (.newarray .int, 2, 0, 0, 0, 0), none, some (.putfield 22, 3, 0, 3, 154, 0), none, none, some (.aload_n 0, 1, 0, 0, 0, 0), some (.sipush 241, 3, 0, 0, 0, 0), none, none, some (.newarray .int, 2, 0, 0, 0, 0), none, some (.putfield 25, 3, 0, 4, 155, 0), none, none, some (.aload_n 0, 1, 0, 0, 0, 0), some (.iconst 0, 1, 0, 0, 0, 0), some (.putfield 28, 3, 0, 5, 156, 0), none, none, some (.aload_n 0, 1, 0, 0, 0, 0), some (.bipush 40, 2, 0, 0, 0, 0), none, some (.newarray .int, 2, 0, 0, 0, 0), none, some (.putfield 31, 3, 0, 6, 157, 0), none, none, some (.aload_n 0, 1, 0, 0, 0, 0), some (.bipush 40, 2, 0, 0, 0, 0), none, some (.newarray .long, 2, 1, 0, 0, 0), none, some (.putfield 34, 3, 0, 7, 158, 0), none, none, some (.aload_n 0, 1, 0, 0, 0, 0), some (.bipush 40, 2, 0, 0, 0, 0), none, some (.newarray .int, 2, 0, 0, 0, 0), none, some (.putfield 38, 3, 0, 8, 159, 0), none, none, some (.return_, 1, 0, 0, 0, 0)]
def am_q1 : List (Option am_I) := [some (.aload_n 0, 1, 0, 0, 0, 0), some (.iconst 0, 1, 0, 0, 0, 0), some (.putfield 9, 3, 0, 0, 151, 0), none, none, some (.aload_n 0, 1, 0, 0, 0, 0), some (.iconst 0, 1, 0, 0, 0, 0), some (.putfield 28, 3, 0, 5, 156, 0), none, none, some (.return_, 1, 0, 0, 0, 0)]
def am_q2 : List (Option am_I) := [some (.aload_n 0, 1, 0, 0, 0, 0), some (.getfield 9, 3, 0, 0, 151, 0), none, none, some (.sipush 240, 3, 0, 0, 0, 0), none, none, some (.if_icmp .ne 11, 3, 18, 0, 0, 0), none, none, some (.aload_n 1, 1, 0, 0, 0, 0), some (.bipush 8, 2, 0, 0, 0, 0), none, some (.iload 4, 2, 0, 0, 0, 0), none, some (.invokevirtual 41, 3, 44, 3, 719, 0), none, none, some (.aload_n 0, 1, 0, 0, 0, 0), some (.getfield 15, 3, 0, 1, 152, 0), none, none, some (.aload_n 0, 1, 0, 0, 0, 0), some (.getfield 9, 3, 0, 0, 151, 0), none, none, some (.iload 4, 2, 0, 0, 0, 0), none, some (.iastore, 1, 0, 0, 0, 0), some (.aload_n 0, 1, 0, 0, 0, 0), some (.getfield 22, 3, 0, 3, 154, 0), none, none, some (.aload_n 0, 1, 0, 0, 0, 0), some (.getfield 9, 3, 0, 0, 151, 0), none, none, some (.aload_n 1, 1, 0, 0, 0, 0), some (.getfield 47, 3, 5, 3, 115, 0), none, none, some (.iastore, 1, 0, 0, 0, 0), some (.aload_n 0, 1, 0, 0, 0, 0), some (.getfield 19, 3, 0, 2, 153, 0), none, none, some (.aload_n 0, 1, 0, 0, 0, 0), some (.getfield 9, 3, 0, 0, 151, 0), none, none, some (.aload_n 1, 1, 0, 0, 0, 0), some (.invokevirtual 50, 3, 50, 1, 720, 0), none, none, some (.iastore, 1, 0, 0, 0, 0), some (.aload_n 1, 1, 0, 0, 0, 0), some (.invokevirtual 50, 3, 50, 1, 720, 0), none, none, some (.istore 5, 2, 0, 0, 0, 0), none, some (.iconst 0, 1, 0, 0, 0, 0), some (.istore 6, 2, 0, 0, 0, 0), none, some (.iload 6, 2, 0, 0, 0, 0), none, some (.iload 5, 2, 0, 0, 0, 0), none, some (.if_icmp .ge 140, 3, 208, 0, 0, 0), none, none, some (.aload_n 1, 1, 0, 0, 0, 0), some (.getfield 47, 3, 5, 3, 115, 0), none, none, some (.istore 7, 2, 0, 0, 0, 0), none, some (.aload_n 1, 1, 0, 0, 0, 0), some (.invokevirtual 50, 3, 50, 1, 720, 0), none, none, some (.istore 8, 2, 0, 0, 0, 0), none, some (.aload_n 2, 1, 0, 0, 0, 0), some (.iload 8, 2, 0, 0, 0, 0), none, some (.invokevirtual 53, 3, 12, 2, 721, 0), none, none, some (.ifCond .ne 19, 3, 108, 0, 0, 0), none, none, some (.aload_n 2, 1, 0, 0, 0, 0), some (.iload 8, 2, 0, 0, 0, 0), none, some (.invokevirtual 59, 3, 13, 2, 722, 0), none, none, some (.ifCond .ne 10, 3, 108, 0, 0, 0), none, none, some (.aload_n 1, 1, 0, 0, 0, 0), some (.iconst 3, 1, 0, 0, 0, 0), some (.iload 7, 2, 0, 0, 0, 0), none, some (.invokevirtual 41, 3, 44, 3, 719, 0), none, none, some (.aload_n 1, 1, 0, 0, 0, 0), some (.invokevirtual 50, 3, 50, 1, 720, 0), none, none, some (.istore 9, 2, 0, 0, 0, 0), none, some (.iconst 0, 1, 0, 0, 0, 0), some (.istore 10, 2, 0, 0, 0, 0), none, some (.iload 10, 2, 0, 0, 0, 0), none, some (.iload 9, 2, 0, 0, 0, 0), none, some (.if_icmp .ge 81, 3, 202, 0, 0, 0), none, none, some (.aload_n 0, 1, 0, 0, 0, 0), some (.getfield 28, 3, 0, 5, 156, 0), none, none, some (.bipush 40, 2, 0, 0, 0, 0), none, some (.if_icmp .ne 13, 3, 143, 0, 0, 0), none, none, some (.aload_n 1, 1, 0, 0, 0, 0), some (.bipush 8, 2, 0, 0, 0, 0), none, some (.aload_n 1, 1, 0, 0, 0, 0), some (.getfield 47, 3, 5, 3, 115, 0), none, none, some (.invokevirtual 41, 3, 44, 3, 719, 0), none, none, some (.aload_n 0, 1, 0, 0, 0, 0), some (.getfield 31, 3, 0, 6, 157, 0), none, none, some (.aload_n 0, 1, 0, 0, 0, 0), some (.getfield 28, 3, 0, 5, 156, 0), none, none, some (.iload 8, 2, 0, 0, 0, 0), none, some (.iastore, 1, 0, 0, 0, 0), some (.aload_n 0, 1, 0, 0, 0, 0), some (.getfield 34, 3, 0, 7, 158, 0), none, none, some (.aload_n 0, 1, 0, 0, 0, 0), some (.getfield 28, 3, 0, 5, 156, 0), none, none, some (.aload_n 1, 1, 0, 0, 0, 0), some (.invokevirtual 62, 3, 49, 1, 723, 0), none, none, some (.lastore, 1, 0, 0, 0, 0), some (.aload_n 0, 1, 0, 0, 0, 0), some (.getfield 38, 3, 0, 8, 159, 0), none, none, some (.aload_n 0, 1, 0, 0, 0, 0), some (.getfield 28, 3, 0, 5, 156, 0), none, none, some (.aload_n 3, 1, 0, 0, 0, 0), some (.aload_n 1, 1, 0, 0, 0, 0), some (.aload_n 2, 1, 0, 0, 0, 0), some (.iload 8, 2, 0, 0, 0, 0), none, some (.iconst 0, 1, 0, 0, 0, 0), some (.iconst 0, 1, 0, 0, 0, 0), some (.invokevirtual 66, 3, 65, 6, 724, 0), none, none, some (.iastore, 1, 0, 0, 0, 0), some (.aload_n 0, 1, 0, 0, 0, 0), some (.dup, 1, 0, 0, 0, 0), some (.getfield 28, 3, 0, 5, 156, 0), none, none, some (.iconst 1, 1, 0, 0, 0, 0), some (.iadd, 1, 0, 0, 0, 0), some (.putfield 28, 3, 0, 5, 156, 0), none, none, some (.iinc 10 1, 3, 0, 0, 0, 0), none, none, some (.goto (-82), 3, 117, 0, 0, 0), none, none, some (.iinc 6 1, 3, 0, 0, 0, 0), none, none, some (.goto (-141), 3, 64, 0, 0, 0), none, none, some (.aload_n 0, 1, 0, 0, 0, 0), some (.dup, 1, 0, 0, 0, 0), some (.getfield 9, 3, 0, 0, 151, 0), none, none, some (.iconst 1, 1, 0, 0, 0, 0), some (.iadd, 1, 0, 0, 0, 0), some (.putfield 9, 3, 0, 0, 151, 0), none, none, some (.aload_n 0, 1, 0, 0, 0, 0), some (.getfield 25, 3, 0, 4, 155, 0), none, none, some (.aload_n 0, 1, 0, 0, 0, 0), some (.getfield 9, 3, 0, 0, 151, 0), none, none, some (.aload_n 0, 1, 0, 0, 0, 0), some (.getfield 28, 3, 0, 5, 156, 0), none, none, some (.iastore, 1, 0, 0, 0, 0), some (.return_, 1, 0, 0, 0, 0)]
def am_q3 : List (Option am_I) := [some (.aload_n 2, 1, 0, 0, 0, 0), some (.iconst 0, 1, 0, 0, 0, 0), some (.putfield 72, 3, 1, 6, 281, 0), none, none, some (.aload_n 1, 1, 0, 0, 0, 0), some (.aload_n 2, 1, 0, 0, 0, 0), some (.getfield 73, 3, 1, 0, 270, 0), none, none, some (.bipush 10, 2, 0, 0, 0, 0), none, some (.iadd, 1, 0, 0, 0, 0), some (.iconst 2, 1, 0, 0, 0, 0), some (.invokevirtual 76, 3, 46, 3, 773, 0), none, none, some (.l2i, 1, 0, 0, 0, 0), some (.istore_n 3, 1, 0, 0, 0, 0), some (.iload_n 3, 1, 0, 0, 0, 0), some (.ifCond .ne 4, 3, 24, 0, 0, 0), none, none, some (.return_, 1, 0, 0, 0, 0), some (.aload_n 0, 1, 0, 0, 0, 0), some (.aload_n 2, 1, 0, 0, 0, 0), some (.getfield 73, 3, 1, 0, 270, 0), none, none, some (.iload_n 3, 1, 0, 0, 0, 0), some (.iadd, 1, 0, 0, 0, 0), some (.invokevirtual 80, 3, 4, 2, 774, 0), none, none, some (.istore 4, 2, 0, 0, 0, 0), none, some (.iload 4, 2, 0, 0, 0, 0), none, some (.iconst (-1), 1, 0, 0, 0, 0), some (.if_icmp .ne 16, 3, 55, 0, 0, 0), none, none, some (.aload_n 1, 1, 0, 0, 0, 0), some (.bipush 7, 2, 0, 0, 0, 0), none, some (.aload_n 2, 1, 0, 0, 0, 0), some (.getfield 73, 3, 1, 0, 270, 0), none, none, some (.bipush 10, 2, 0, 0, 0, 0), none, some (.iadd, 1, 0, 0, 0, 0), some (.invokevirtual 41, 3, 44, 3, 719, 0), none, none, some (.iconst 0, 1, 0, 0, 0, 0), some (.istore 5, 2, 0, 0, 0, 0), none, some (.iload 5, 2, 0, 0, 0, 0), none, some (.aload_n 0, 1, 0, 0, 0, 0), some (.getfield 9, 3, 0, 0, 151, 0), none, none, some (.if_icmp .ge 118, 3, 182, 0, 0, 0), none, none, some (.aload_n 0, 1, 0, 0, 0, 0), some (.getfield 25, 3, 0, 4, 155, 0), none, none, some (.iload 4, 2, 0, 0, 0, 0), none, some (.iaload, 1, 0, 0, 0, 0), some (.istore 6, 2, 0, 0, 0, 0), none, some (.iload 6, 2, 0, 0, 0, 0), none, some (.aload_n 0, 1, 0, 0, 0, 0), some (.getfield 25, 3, 0, 4, 155, 0), none, none, some (.iload 4, 2, 0, 0, 0, 0), none, some (.iconst 1, 1, 0, 0, 0, 0), some (.iadd, 1, 0, 0, 0, 0), some (.iaload, 1, 0, 0, 0, 0), some (.if_icmp .ge 34, 3, 121, 0, 0, 0), none, none, some (.aload_n 2, 1, 0, 0, 0, 0), some (.aload_n 0, 1, 0, 0, 0, 0), some (.getfield 31, 3, 0, 6, 157, 0), none, none, some (.iload 6, 2, 0, 0, 0, 0), none, some (.iaload, 1, 0, 0, 0, 0), some (.aload_n 0, 1, 0, 0, 0, 0), some (.getfield 34, 3, 0, 7, 158, 0), none, none, some (.iload 6, 2, 0, 0, 0, 0), none, some (.laload, 1, 0, 0, 0, 0), some (.aload_n 0, 1, 0, 0, 0, 0), some (.getfield 38, 3, 0, 8, 159, 0), none, none, some (.iload 6, 2, 0, 0, 0, 0), none, some (.iaload, 1, 0, 0, 0, 0), some (.invokevirtual 84, 3, 15, 4, 778, 0), none, none, some (.iinc 6 1, 3, 0, 0, 0, 0), none, none, some (.goto (-42), 3, 76, 0, 0, 0), none, none, some (.aload_n 0, 1, 0, 0, 0, 0), some (.getfield 19, 3, 0, 2, 153, 0), none, none, some (.iload 4, 2, 0, 0, 0, 0), none, some (.iaload, 1, 0, 0, 0, 0), some (.ifCond .ne 4, 3, 132, 0, 0, 0), none, none, some (.return_, 1, 0, 0, 0, 0), some (.aload_n 0, 1, 0, 0, 0, 0), some (.aload_n 0, 1, 0, 0, 0, 0), some (.getfield 15, 3, 0, 1, 152, 0), none, none, some (.iload 4, 2, 0, 0, 0, 0), none, some (.iaload, 1, 0, 0, 0, 0), some (.aload_n 0, 1, 0, 0, 0, 0), some (.getfield 19, 3, 0, 2, 153, 0), none, none, some (.iload 4, 2, 0, 0, 0, 0), none, some (.iaload, 1, 0, 0, 0, 0), some (.isub, 1, 0, 0, 0, 0), some (.invokevirtual 80, 3, 4, 2, 774, 0), none, none, some (.istore 6, 2, 0, 0, 0, 0), none, some (.iload 6, 2, 0, 0, 0, 0), none, some (.iconst (-1), 1, 0, 0, 0, 0), some (.if_icmp .ne 16, 3, 172, 0, 0, 0), none, none, some (.aload_n 1, 1, 0, 0, 0, 0), some (.bipush 7, 2, 0, 0, 0, 0), none, some (.aload_n 0, 1, 0, 0, 0, 0), some (.getfield 22, 3, 0, 3, 154, 0), none, none, some (.iload 4, 2, 0, 0, 0, 0), none, some (.iaload, 1, 0, 0, 0, 0), some (.invokevirtual 41, 3, 44, 3, 719, 0), none, none, some (.iload 6, 2, 0, 0, 0, 0), none, some (.istore 4, 2, 0, 0, 0, 0), none, some (.iinc 5 1, 3, 0, 0, 0, 0), none, none, some (.goto (-121), 3, 58, 0, 0, 0), none, none, some (.return_, 1, 0, 0, 0, 0)]
def am_q4 : List (Option am_I) := [some (.iconst 0, 1, 0, 0, 0, 0), some (.istore_n 2, 1, 0, 0, 0, 0), some (.iload_n 2, 1, 0, 0, 0, 0), some (.aload_n 0, 1, 0, 0, 0, 0), some (.getfield 9, 3, 0, 0, 151, 0), none, none, some (.if_icmp .ge 21, 3, 28, 0, 0, 0), none, none, some (.aload_n 0, 1, 0, 0, 0, 0), some (.getfield 15, 3, 0, 1, 152, 0), none, none, some (.iload_n 2, 1, 0, 0, 0, 0), some (.iaload, 1, 0, 0, 0, 0), some (.iload_n 1, 1, 0, 0, 0, 0), some (.if_icmp .ne 5, 3, 22, 0, 0, 0), none, none, some (.iload_n 2, 1, 0, 0, 0, 0), some (.ireturn, 1, 0, 0, 0, 0), some (.iinc 2 1, 3, 0, 0, 0, 0), none, none, some (.goto (-23), 3, 2, 0, 0, 0), none, none, some (.iconst (-1), 1, 0, 0, 0, 0), some (.ireturn, 1, 0, 0, 0, 0)]
def am_q5 : List (Option am_I) := [some (.aload_n 0, 1, 0, 0, 0, 0), some (.invokespecial 3, 3, 99999, 0, 230, 0), none, none, some (.aload_n 0, 1, 0, 0, 0, 0), some (.iconst 0, 1, 0, 0, 0, 0), some (.putfield 9, 3, 1, 0, 269, 0), none, none, some (.aload_n 0, 1, 0, 0, 0, 0), some (.iconst 0, 1, 0, 0, 0, 0), some (.putfield 15, 3, 1, 1, 271, 0), none, none, some (.aload_n 0, 1, 0, 0, 0, 0), some (.lconst 0, 1, 0, 0, 0, 0), some (.putfield 18, 3, 1, 2, 273, 0), none, none, some (.aload_n 0, 1, 0, 0, 0, 0), some (.lconst 1, 1, 0, 0, 0, 0), some (.putfield 22, 3, 1, 3, 275, 0), none, none, some (.aload_n 0, 1, 0, 0, 0, 0), some (.iconst 0, 1, 0, 0, 0, 0), some (.putfield 25, 3, 1, 4, 277, 0), none, none, some (.aload_n 0, 1, 0, 0, 0, 0), some (.bipush 10, 2, 0, 0, 0, 0), none, some (.anewarray 28, 3, 5, 0, 231, 0), none, none, some (.putfield 30, 3, 1, 5, 278, 0), none, none, some (.aload_n 0, 1, 0, 0, 0, 0), some (.iconst 0, 1, 0, 0, 0, 0), some (.putfield 34, 3, 1, 6, 280, 0), none, none, some (.aload_n 0, 1, 0, 0, 0, 0), some (.bipush 40, 2, 0, 0, 0, 0), none, some (.newarray .int, 2, 0, 0, 0, 0), none, some (.putfield 37, 3, 1, 7, 282, 0), none, none, some (.aload_n 0, 1, 0, 0, 0, 0), some (.bipush 40, 2, 0, 0, 0, 0), none, some (.newarray .long, 2, 1, 0, 0, 0), none, some (.putfield 41, 3, 1, 8, 283, 0), none, none, some (.aload_n 0, 1, 0, 0, 0, 0), some (.bipush 40, 2, 0, 0, 0, 0), none, some (.newarray .int, 2, 0, 0, 0, 0), none, some (.putfield 45, 3, 1, 9, 284, 0), none, none, some (.iconst 0, 1, 0, 0, 0, 0), some (.istore_n 1, 1, 0, 0, 0, 0), some (.iload_n 1, 1, 0, 0, 0, 0), some (.bipush 10, 2, 0, 0, 0, 0), none, some (.if_icmp .ge 22, 3, 94, 0, 0, 0), none, none, some (.aload_n 0, 1, 0, 0, 0, 0), some (.getfield 30, 3, 1, 5, 278, 0), none, none, some (.iload_n 1, 1, 0, 0, 0, 0), some (.new 28, 3, 7, 0, 231, 0), none, none, some (.dup, 1, 0, 0, 0, 0), some (.invokespecial 48, 3, 59, 1, 234, 0), none, none, some (.aastore, 1, 0, 0, 0, 0), some (.iinc 1 1, 3, 0, 0, 0, 0), none, none, some (.goto (-22), 3, 69, 0, 0, 0), none, none, some (.return_, 1, 0, 0, 0, 0)]
def am_q6 : List (Option am_I) := [some (.aload_n 0, 1, 0, 0, 0, 0), some (.iload_n 2, 1, 0, 0, 0, 0), some (.putfield 9, 3, 1, 0, 269, 0), none, none, some (.iconst 0, 1, 0, 0, 0, 0), some (.istore_n 3, 1, 0, 0, 0, 0), some (.iload_n 3, 1, 0, 0, 0, 0), some (.bipush 8, 2, 0, 0, 0, 0), none, some (.if_icmp .ge 59, 3, 69, 0, 0, 0), none, none, some (.iload_n 2, 1, 0, 0, 0, 0), some (.iload_n 3, 1, 0, 0, 0, 0), some (.iadd, 1, 0, 0, 0, 0), some (.aload_n 1, 1, 0, 0, 0, 0), some (.getfield 49, 3, 5, 2, 111, 0), none, none, some (.if_icmp .lt 12, 3, 32, 0, 0, 0), none, none, some (.aload_n 1, 1, 0, 0, 0, 0), some (.iconst 2, 1, 0, 0, 0, 0), some (.aload_n 1, 1, 0, 0, 0, 0), some (.getfield 49, 3, 5, 2, 111, 0), none, none, some (.invokevirtual 54, 3, 44, 3, 632, 0), none, none, some (.iload_n 3, 1, 0, 0, 0, 0), some (.getstatic 58, 3, 0, 0, 633, 0), none, none, some (.arraylength, 1, 0, 0, 0, 0), some (.if_icmp .ge 26, 3, 63, 0, 0, 0), none, none, some (.aload_n 1, 1, 0, 0, 0, 0), some (.iload_n 2, 1, 0, 0, 0, 0), some (.iload_n 3, 1, 0, 0, 0, 0), some (.iadd, 1, 0, 0, 0, 0), some (.invokevirtual 61, 3, 45, 2, 635, 0), none, none, some (.getstatic 58, 3, 0, 0, 633, 0), none, none, some (.iload_n 3, 1, 0, 0, 0, 0), some (.iaload, 1, 0, 0, 0, 0), some (.if_icmp .eq 11, 3, 63, 0, 0, 0), none, none, some (.aload_n 1, 1, 0, 0, 0, 0), some (.iconst 1, 1, 0, 0, 0, 0), some (.iload_n 2, 1, 0, 0, 0, 0), some (.iload_n 3, 1, 0, 0, 0, 0), some (.iadd, 1, 0, 0, 0, 0), some (.invokevirtual 54, 3, 44, 3, 632, 0), none, none, some (.iinc 3 1, 3, 0, 0, 0, 0), none, none, some (.goto (-59), 3, 7, 0, 0, 0), none, none, some (.aload_n 1, 1, 0, 0, 0, 0), some (.iload_n 2, 1, 0, 0, 0, 0), some (.bipush 6, 2, 0, 0, 0, 0), none, some (.iadd, 1, 0, 0, 0, 0), some (.iconst 2, 1, 0, 0, 0, 0), some (.invokevirtual 65, 3, 46, 3, 639, 0), none, none, some (.l2i, 1, 0, 0, 0, 0), some (.istore_n 3, 1, 0, 0, 0, 0), some (.iload_n 3, 1, 0, 0, 0, 0), some (.bipush 20, 2, 0, 0, 0, 0), none, some (.if_icmp .ge 12, 3, 95, 0, 0, 0), none, none, some (.aload_n 1, 1, 0, 0, 0, 0), some (.iconst 1, 1, 0, 0, 0, 0), some (.iload_n 2, 1, 0, 0, 0, 0), some (.bipush 6, 2, 0, 0, 0, 0), none, some (.iadd, 1, 0, 0, 0, 0), some (.invokevirtual 54, 3, 44, 3, 632, 0), none, none, some (.iload_n 3, 1, 0, 0, 0, 0), some (.aload_n 1, 1, 0, 0, 0, 0), some (.getfield 49, 3, 5, 2, 111, 0), none, none, some (.iload_n 2, 1, 0, 0, 0, 0), some (.isub, 1, 0, 0, 0, 0), some (.if_icmp .le 12, 3, 114, 0, 0, 0), none, none, some (.aload_n 1, 1, 0, 0, 0, 0), some (.iconst 2, 1, 0, 0, 0, 0), some (.iload_n 2, 1, 0, 0, 0, 0), some (.bipush 6, 2, 0, 0, 0, 0), none, some (.iadd, 1, 0, 0, 0, 0), some (.invokevirtual 54, 3, 44, 3, 632, 0), none, none, some (.aload_n 0, 1, 0, 0, 0, 0), some (.iload_n 2, 1, 0, 0, 0, 0), some (.iload_n 3, 1, 0, 0, 0, 0), some (.iadd, 1, 0, 0, 0, 0), some (.putfield 15, 3, 1, 1, 271, 0), none, none, some (.aload_n 0, 1, 0, 0, 0, 0), some (.aload_n 1, 1, 0, 0, 0, 0), some (.iload_n 2, 1, 0, 0, 0, 0), some (.bipush 12, 2, 0, 0, 0, 0), none, some (.iadd, 1, 0, 0, 0, 0), some (.iconst 4, 1, 0, 0, 0, 0), some (.invokevirtual 65, 3, 46, 3, 639, 0), none, none, some (.putfield 18, 3, 1, 2, 273, 0), none, none, some (.aload_n 0, 1, 0, 0, 0, 0), some (.aload_n 1, 1, 0, 0, 0, 0), some (.iload_n 2, 1, 0, 0, 0, 0), some (.bipush 16, 2, 0, 0, 0, 0), none, some (.iadd, 1, 0, 0, 0, 0), some (.iconst 4, 1, 0, 0, 0, 0), some (.invokevirtual 65, 3, 46, 3, 639, 0), none, none, some (.putfield 22, 3, 1, 3, 275, 0), none, none, some (.aload_n 0, 1, 0, 0, 0, 0), some (.getfield 22, 3, 1, 3, 275, 0), none, none, some (.lconst 1, 1, 0, 0, 0, 0), some (.lcmp, 1, 0, 0, 0, 0), some (.ifCond .ge 12, 3, 165, 0, 0, 0), none, none, some (.aload_n 1, 1, 0, 0, 0, 0), some (.iconst 1, 1, 0, 0, 0, 0), some (.iload_n 2, 1, 0, 0, 0, 0), some (.bipush 16, 2, 0, 0, 0, 0), none, some (.iadd, 1, 0, 0, 0, 0), some (.invokevirtual 54, 3, 44, 3, 632, 0), none, none, some (.return_, 1, 0, 0, 0, 0)]
def am_q7 : List (Option am_I) := [some (.aload_n 0, 1, 0, 0, 0, 0), some (.getfield 9, 3, 1, 0, 269, 0), none, none, some (.aload_n 1, 1, 0, 0, 0, 0), some (.aload_n 0, 1, 0, 0, 0, 0), some (.getfield 9, 3, 1, 0, 269, 0), none, none, some (.bipush 8, 2, 0, 0, 0, 0), none, some (.iadd, 1, 0, 0, 0, 0), some (.iconst 2, 1, 0, 0, 0, 0), some (.invokevirtual 65, 3, 46, 3, 639, 0), none, none, some (.l2i, 1, 0, 0, 0, 0), some (.iadd, 1, 0, 0, 0, 0), some (.istore_n 2, 1, 0, 0, 0, 0), some (.iload_n 2, 1, 0, 0, 0, 0), some (.aload_n 0, 1, 0, 0, 0, 0), some (.getfield 9, 3, 1, 0, 269, 0), none, none, some (.bipush 20, 2, 0, 0, 0, 0), none, some (.iadd, 1, 0, 0, 0, 0), some (.if_icmp .lt 11, 3, 38, 0, 0, 0), none, none, some (.iload_n 2, 1, 0, 0, 0, 0), some (.aload_n 0, 1, 0, 0, 0, 0), some (.getfield 15, 3, 1, 1, 271, 0), none, none, some (.if_icmp .lt 15, 3, 50, 0, 0, 0), none, none, some (.aload_n 1, 1, 0, 0, 0, 0), some (.iconst 3, 1, 0, 0, 0, 0), some (.aload_n 0, 1, 0, 0, 0, 0), some (.getfield 9, 3, 1, 0, 269, 0), none, none, some (.bipush 8, 2, 0, 0, 0, 0), none, some (.iadd, 1, 0, 0, 0, 0), some (.invokevirtual 54, 3, 44, 3, 632, 0), none, none, some (.aload_n 1, 1, 0, 0, 0, 0), some (.iload_n 2, 1, 0, 0, 0, 0), some (.aload_n 0, 1, 0, 0, 0, 0), some (.getfield 15, 3, 1, 1, 271, 0), none, none, some (.invokevirtual 69, 3, 51, 3, 647, 0), none, none, some (.ifCond .eq 12, 3, 71, 0, 0, 0), none, none, some (.aload_n 1, 1, 0, 0, 0, 0), some (.iconst 3, 1, 0, 0, 0, 0), some (.aload_n 1, 1, 0, 0, 0, 0), some (.getfield 73, 3, 5, 5, 121, 0), none, none, some (.invokevirtual 54, 3, 44, 3, 632, 0), none, none, some (.aload_n 1, 1, 0, 0, 0, 0), some (.getfield 76, 3, 5, 3, 116, 0), none, none, some (.istore_n 3, 1, 0, 0, 0, 0), some (.aload_n 1, 1, 0, 0, 0, 0), some (.invokevirtual 79, 3, 50, 1, 661, 0), none, none, some (.istore 4, 2, 0, 0, 0, 0), none, some (.iload 4, 2, 0, 0, 0, 0), none, some (.bipush 10, 2, 0, 0, 0, 0), none, some (.if_icmp .le 9, 3, 95, 0, 0, 0), none, none, some (.aload_n 1, 1, 0, 0, 0, 0), some (.iconst 4, 1, 0, 0, 0, 0), some (.iload_n 3, 1, 0, 0, 0, 0), some (.invokevirtual 54, 3, 44, 3, 632, 0), none, none, some (.aload_n 0, 1, 0, 0, 0, 0), some (.iconst 0, 1, 0, 0, 0, 0), some (.putfield 25, 3, 1, 4, 277, 0), none, none, some (.iconst 0, 1, 0, 0, 0, 0), some (.istore 5, 2, 0, 0, 0, 0), none, some (.iload 5, 2, 0, 0, 0, 0), none, some (.iload 4, 2, 0, 0, 0, 0), none, some (.if_icmp .ge 67, 3, 174, 0, 0, 0), none, none, some (.aload_n 1, 1, 0, 0, 0, 0), some (.getfield 76, 3, 5, 3, 116, 0), none, none, some (.istore 6, 2, 0, 0, 0, 0), none, some (.aload_n 1, 1, 0, 0, 0, 0), some (.invokevirtual 79, 3, 50, 1, 661, 0), none, none, some (.istore 7, 2, 0, 0, 0, 0), none, some (.iload 7, 2, 0, 0, 0, 0), none, some (.bipush 16, 2, 0, 0, 0, 0), none, some (.if_icmp .lt 12, 3, 138, 0, 0, 0), none, none, some (.aload_n 0, 1, 0, 0, 0, 0), some (.iload 7, 2, 0, 0, 0, 0), none, some (.invokevirtual 83, 3, 11, 2, 662, 0), none, none, some (.ifCond .lt 10, 3, 145, 0, 0, 0), none, none, some (.aload_n 1, 1, 0, 0, 0, 0), some (.iconst 4, 1, 0, 0, 0, 0), some (.iload 6, 2, 0, 0, 0, 0), none, some (.invokevirtual 54, 3, 44, 3, 632, 0), none, none, some (.aload_n 0, 1, 0, 0, 0, 0), some (.getfield 30, 3, 1, 5, 278, 0), none, none, some (.iload 5, 2, 0, 0, 0, 0), none, some (.aaload, 1, 0, 0, 0, 0), some (.aload_n 1, 1, 0, 0, 0, 0), some (.iload 7, 2, 0, 0, 0, 0), none, some (.invokevirtual 86, 3, 60, 3, 666, 0), none, none, some (.aload_n 0, 1, 0, 0, 0, 0), some (.dup, 1, 0, 0, 0, 0), some (.getfield 25, 3, 1, 4, 277, 0), none, none, some (.iconst 1, 1, 0, 0, 0, 0), some (.iadd, 1, 0, 0, 0, 0), some (.putfield 25, 3, 1, 4, 277, 0), none, none, some (.iinc 5 1, 3, 0, 0, 0, 0), none, none, some (.goto (-68), 3, 103, 0, 0, 0), none, none, some (.aload_n 1, 1, 0, 0, 0, 0), some (.invokevirtual 90, 3, 52, 1, 686, 0), none, none, some (.aload_n 0, 1, 0, 0, 0, 0), some (.invokevirtual 93, 3, 8, 1, 690, 0), none, none, some (.ifCond .eq 10, 3, 192, 0, 0, 0), none, none, some (.aload_n 0, 1, 0, 0, 0, 0), some (.invokevirtual 97, 3, 9, 1, 702, 0), none, none, some (.ifCond .eq 9, 3, 198, 0, 0, 0), none, none, some (.aload_n 1, 1, 0, 0, 0, 0), some (.iconst 4, 1, 0, 0, 0, 0), some (.iload_n 2, 1, 0, 0, 0, 0), some (.invokevirtual 54, 3, 44, 3, 632, 0), none, none, some (.return_, 1, 0, 0, 0, 0)]
def am_q8 : List (Option am_I) := [some (.iconst 0, 1, 0, 0, 0, 0), some (.istore_n 1, 1, 0, 0, 0, 0), some (.iload_n 1, 1, 0, 0, 0, 0), some (.aload_n 0, 1, 0, 0, 0, 0), some (.getfield 25, 3, 1, 4, 277, 0), none, none, some (.if_icmp .ge 76, 3, 83, 0, 0, 0), none, none, some (.iconst 0, 1, 0, 0, 0, 0), some (.istore_n 2, 1, 0, 0, 0, 0), some (.iload_n 2, 1, 0, 0, 0, 0), some (.aload_n 0, 1, 0, 0, 0, 0), some (.getfield 30, 3, 1, 5, 278, 0), none, none, some (.iload_n 1, 1, 0, 0, 0, 0), some (.aaload, 1, 0, 0, 0, 0), some (.getfield 100, 3, 7, 3, 246, 0), none, none, some (.if_icmp .ge 55, 3, 77, 0, 0, 0), none, none, some (.aload_n 0, 1, 0, 0, 0, 0), some (.getfield 30, 3, 1, 5, 278, 0), none, none, some (.iload_n 1, 1, 0, 0, 0, 0), some (.aaload, 1, 0, 0, 0, 0), some (.getfield 103, 3, 7, 5, 250, 0), none, none, some (.iload_n 2, 1, 0, 0, 0, 0), some (.iaload, 1, 0, 0, 0, 0), some (.istore_n 3, 1, 0, 0, 0, 0), some (.aload_n 0, 1, 0, 0, 0, 0), some (.iload_n 3, 1, 0, 0, 0, 0), some (.invokevirtual 106, 3, 12, 2, 694, 0), none, none, some (.ifCond .ne 29, 3, 71, 0, 0, 0), none, none, some (.aload_n 0, 1, 0, 0, 0, 0), some (.iload_n 3, 1, 0, 0, 0, 0), some (.invokevirtual 110, 3, 13, 2, 698, 0), none, none, some (.ifCond .eq 19, 3, 69, 0, 0, 0), none, none, some (.aload_n 0, 1, 0, 0, 0, 0), some (.getfield 30, 3, 1, 5, 278, 0), none, none, some (.aload_n 0, 1, 0, 0, 0, 0), some (.iload_n 3, 1, 0, 0, 0, 0), some (.invokevirtual 83, 3, 11, 2, 662, 0), none, none, some (.aaload, 1, 0, 0, 0, 0), some (.getfield 100, 3, 7, 3, 246, 0), none, none, some (.ifCond .ne 5, 3, 71, 0, 0, 0), none, none, some (.iconst 0, 1, 0, 0, 0, 0), some (.ireturn, 1, 0, 0, 0, 0), some (.iinc 2 1, 3, 0, 0, 0, 0), none, none, some (.goto (-62), 3, 12, 0, 0, 0), none, none, some (.iinc 1 1, 3, 0, 0, 0, 0), none, none, some (.goto (-78), 3, 2, 0, 0, 0), none, none, some (.iconst 1, 1, 0, 0, 0, 0), some (.ireturn, 1, 0, 0, 0, 0)]
def am_q9 : List (Option am_I) := [some (.iconst 0, 1, 0, 0, 0, 0), some (.istore_n 1, 1, 0, 0, 0, 0), some (.iconst 0, 1, 0, 0, 0, 0), some (.istore_n 2, 1, 0, 0, 0, 0), some (.iload_n 2, 1, 0, 0, 0, 0), some (.aload_n 0, 1, 0, 0, 0, 0), some (.getfield 25, 3, 1, 4, 277, 0), none, none, some (.if_icmp .ge 45, 3, 54, 0, 0, 0), none, none, some (.iconst 0, 1, 0, 0, 0, 0), some (.istore_n 3, 1, 0, 0, 0, 0), some (.iload_n 3, 1, 0, 0, 0, 0), some (.aload_n 0, 1, 0, 0, 0, 0), some (.getfield 25, 3, 1, 4, 277, 0), none, none, some (.if_icmp .ge 29, 3, 48, 0, 0, 0), none, none, some (.aload_n 0, 1, 0, 0, 0, 0), some (.aload_n 0, 1, 0, 0, 0, 0), some (.getfield 30, 3, 1, 5, 278, 0), none, none, some (.iload_n 3, 1, 0, 0, 0, 0), some (.aaload, 1, 0, 0, 0, 0), some (.iload_n 1, 1, 0, 0, 0, 0), some (.invokevirtual 113, 3, 10, 3, 706, 0), none, none, some (.ifCond .eq 9, 3, 42, 0, 0, 0), none, none, some (.iload_n 1, 1, 0, 0, 0, 0), some (.iconst 1, 1, 0, 0, 0, 0), some (.iload_n 3, 1, 0, 0, 0, 0), some (.ishl, 1, 0, 0, 0, 0), some (.ior, 1, 0, 0, 0, 0), some (.istore_n 1, 1, 0, 0, 0, 0), some (.iinc 3 1, 3, 0, 0, 0, 0), none, none, some (.goto (-31), 3, 14, 0, 0, 0), none, none, some (.iinc 2 1, 3, 0, 0, 0, 0), none, none, some (.goto (-47), 3, 4, 0, 0, 0), none, none, some (.iload_n 1, 1, 0, 0, 0, 0), some (.iconst 1, 1, 0, 0, 0, 0), some (.aload_n 0, 1, 0, 0, 0, 0), some (.getfield 25, 3, 1, 4, 277, 0), none, none, some (.ishl, 1, 0, 0, 0, 0), some (.iconst 1, 1, 0, 0, 0, 0), some (.isub, 1, 0, 0, 0, 0), some (.if_icmp .eq 7, 3, 70, 0, 0, 0), none, none, some (.iconst 1, 1, 0, 0, 0, 0), some (.goto 4, 3, 71, 0, 0, 0), none, none, some (.iconst 0, 1, 0, 0, 0, 0), some (.ireturn, 1, 0, 0, 0, 0)]
def am_q10 : List (Option am_I) := [some (.iconst 0, 1, 0, 0, 0, 0), some (.istore_n 3, 1, 0, 0, 0, 0), some (.iload_n 3, 1, 0, 0, 0, 0), some (.aload_n 1, 1, 0, 0, 0, 0), some (.getfield 100, 3, 7, 3, 246, 0), none, none, some (.if_icmp .ge 60, 3, 67, 0, 0, 0), none, none, some (.aload_n 0, 1, 0, 0, 0, 0), some (.aload_n 1, 1, 0, 0, 0, 0), some (.getfield 103, 3, 7, 5, 250, 0), none, none, some (.iload_n 3, 1, 0, 0, 0, 0), some (.iaload, 1, 0, 0, 0, 0), some (.invokevirtual 83, 3, 11, 2, 662, 0), none, none, some (.istore 4, 2, 0, 0, 0, 0), none, some (.aload_n 1, 1, 0, 0, 0, 0), some (.getfield 117, 3, 7, 6, 253, 0), none, none, some (.iload_n 3, 1, 0, 0, 0, 0), some (.iaload, 1, 0, 0, 0, 0), some (.iconst 1, 1, 0, 0, 0, 0), some (.iand, 1, 0, 0, 0, 0), some (.ifCond .eq 7, 3, 37, 0, 0, 0), none, none, some (.iconst 1, 1, 0, 0, 0, 0), some (.goto 4, 3, 38, 0, 0, 0), none, none, some (.iconst 0, 1, 0, 0, 0, 0), some (.istore 5, 2, 0, 0, 0, 0), none, some (.iload 5, 2, 0, 0, 0, 0), none, some (.ifCond .ne 19, 3, 61, 0, 0, 0), none, none, some (.iload 4, 2, 0, 0, 0, 0), none, some (.ifCond .lt 14, 3, 61, 0, 0, 0), none, none, some (.iload_n 2, 1, 0, 0, 0, 0), some (.iconst 1, 1, 0, 0, 0, 0), some (.iload 4, 2, 0, 0, 0, 0), none, some (.ishl, 1, 0, 0, 0, 0), some (.iand, 1, 0, 0, 0, 0), some (.ifCond .ne 5, 3, 61, 0, 0, 0), none, none, some (.iconst 0, 1, 0, 0, 0, 0), some (.ireturn, 1, 0, 0, 0, 0), some (.iinc 3 1, 3, 0, 0, 0, 0), none, none, some (.goto (-62), 3, 2, 0, 0, 0), none, none, some (.iconst 1, 1, 0, 0, 0, 0), some (.ireturn, 1, 0, 0, 0, 0)]
def am_q11 : List (Option am_I) := [some (.iconst 0, 1, 0, 0, 0, 0), some (.istore_n 2, 1, 0, 0, 0, 0), some (.iload_n 2, 1, 0, 0, 0, 0), some (.aload_n 0, 1, 0, 0, 0, 0), some (.getfield 25, 3, 1, 4, 277, 0), none, none, some (.if_icmp .ge 24, 3, 31, 0, 0, 0), none, none, some (.aload_n 0, 1, 0, 0, 0, 0), some (.getfield 30, 3, 1, 5, 278, 0), none, none, some (.iload_n 2, 1, 0, 0, 0, 0), some (.aaload, 1, 0, 0, 0, 0), some (.getfield 120, 3, 7, 0, 239, 0), none, none, some (.iload_n 1, 1, 0, 0, 0, 0), some (.if_icmp .ne 5, 3, 25, 0, 0, 0), none, none, some (.iload_n 2, 1, 0, 0, 0, 0), some (.ireturn, 1, 0, 0, 0, 0), some (.iinc 2 1, 3, 0, 0, 0, 0), none, none, some (.goto (-26), 3, 2, 0, 0, 0), none, none, some (.iconst (-1), 1, 0, 0, 0, 0), some (.ireturn, 1, 0, 0, 0, 0)]
def am_q12 : List (Option am_I) := [some (.iload_n 1, 1, 0, 0, 0, 0), some (.iconst 2, 1, 0, 0, 0, 0), some (.if_icmp .lt 13, 3, 15, 0, 0, 0), none, none, some (.iload_n 1, 1, 0, 0, 0, 0), some (.bipush 10, 2, 0, 0, 0, 0), none, some (.if_icmp .gt 7, 3, 15, 0, 0, 0), none, none, some (.iconst 1, 1, 0, 0, 0, 0), some (.goto 4, 3, 16, 0, 0, 0), none, none, some (.iconst 0, 1, 0, 0, 0, 0), some (.ireturn, 1, 0, 0, 0, 0)]
def am_q13 : List (Option am_I) := [some (.aload_n 0, 1, 0, 0, 0, 0), some (.iload_n 1, 1, 0, 0, 0, 0), some (.invokevirtual 83, 3, 11, 2, 662, 0), none, none, some (.istore_n 2, 1, 0, 0, 0, 0), some (.iload_n 2, 1, 0, 0, 0, 0), some (.ifCond .lt 19, 3, 26, 0, 0, 0), none, none, some (.aload_n 0, 1, 0, 0, 0, 0), some (.getfield 30, 3, 1, 5, 278, 0), none, none, some (.iload_n 2, 1, 0, 0, 0, 0), some (.aaload, 1, 0, 0, 0, 0), some (.getfield 123, 3, 7, 2, 243, 0), none, none, some (.ifCond .ne 7, 3, 26, 0, 0, 0), none, none, some (.iconst 1, 1, 0, 0, 0, 0), some (.goto 4, 3, 27, 0, 0, 0), none, none, some (.iconst 0, 1, 0, 0, 0, 0), some (.ireturn, 1, 0, 0, 0, 0)]
def am_q14 : List (Option am_I) := [some (.aload_n 0, 1, 0, 0, 0, 0), some (.iload_n 1, 1, 0, 0, 0, 0), some (.invokevirtual 83, 3, 11, 2, 662, 0), none, none, some (.istore_n 2, 1, 0, 0, 0, 0), some (.iload_n 2, 1, 0, 0, 0, 0), some (.ifCond .lt 19, 3, 26, 0, 0, 0), none, none, some (.aload_n 0, 1, 0, 0, 0, 0), some (.getfield 30, 3, 1, 5, 278, 0), none, none, some (.iload_n 2, 1, 0, 0, 0, 0), some (.aaload, 1, 0, 0, 0, 0), some (.getfield 123, 3, 7, 2, 243, 0), none, none, some (.ifCond .eq 7, 3, 26, 0, 0, 0), none, none, some (.iconst 1, 1, 0, 0, 0, 0), some (.goto 4, 3, 27, 0, 0, 0), none, none, some (.iconst 0, 1, 0, 0, 0, 0), some (.ireturn, 1, 0, 0, 0, 0)]
def am_q15 : List (Option am_I) := [some (.aload_n 0, 1, 0, 0, 0, 0), some (.getfield 34, 3, 1, 6, 280, 0), none, none, some (.bipush 40, 2, 0, 0, 0, 0), none, some (.if_icmp .ge 44, 3, 50, 0, 0, 0), none, none, some (.aload_n 0, 1, 0, 0, 0, 0), some (.getfield 37, 3, 1, 7, 282, 0), none, none, some (.aload_n 0, 1, 0, 0, 0, 0), some (.getfield 34, 3, 1, 6, 280, 0), none, none, some (.iload_n 1, 1, 0, 0, 0, 0), some (.iastore, 1, 0, 0, 0, 0), some (.aload_n 0, 1, 0, 0, 0, 0), some (.getfield 41, 3, 1, 8, 283, 0), none, none, some (.aload_n 0, 1, 0, 0, 0, 0), some (.getfield 34, 3, 1, 6, 280, 0), none, none, some (.lload_n 2, 1, 0, 0, 0, 0), some (.lastore, 1, 0, 0, 0, 0), some (.aload_n 0, 1, 0, 0, 0, 0), some (.getfield 45, 3, 1, 9, 284, 0), none, none, some (.aload_n 0, 1, 0, 0, 0, 0), some (.getfield 34, 3, 1, 6, 280, 0), none, none, some (.iload 4, 2, 0, 0, 0, 0), none, some (.iastore, 1, 0, 0, 0, 0), some (.aload_n 0, 1, 0, 0, 0, 0), some (.dup, 1, 0, 0, 0, 0), some (.getfield 34, 3, 1, 6, 280, 0), none, none, some (.iconst 1, 1, 0, 0, 0, 0), some (.iadd, 1, 0, 0, 0, 0), some (.putfield 34, 3, 1, 6, 280, 0), none, none, some (.return_, 1, 0, 0, 0, 0)]
def am_q16 : List (Option am_I) := [some (.iconst 0, 1, 0, 0, 0, 0), some (.istore 4, 2, 0, 0, 0, 0), none, some (.iload 4, 2, 0, 0, 0, 0), none, some (.aload_n 0, 1, 0, 0, 0, 0), some (.getfield 34, 3, 1, 6, 280, 0), none, none, some (.if_icmp .ge 40, 3, 49, 0, 0, 0), none, none, some (.aload_n 0, 1, 0, 0, 0, 0), some (.getfield 37, 3, 1, 7, 282, 0), none, none, some (.iload 4, 2, 0, 0, 0, 0), none, some (.iaload, 1, 0, 0, 0, 0), some (.iload_n 1, 1, 0, 0, 0, 0), some (.if_icmp .ne 23, 3, 43, 0, 0, 0), none, none, some (.aload_n 0, 1, 0, 0, 0, 0), some (.getfield 41, 3, 1, 8, 283, 0), none, none, some (.iload 4, 2, 0, 0, 0, 0), none, some (.laload, 1, 0, 0, 0, 0), some (.lload_n 2, 1, 0, 0, 0, 0), some (.lcmp, 1, 0, 0, 0, 0), some (.ifCond .ne 11, 3, 43, 0, 0, 0), none, none, some (.aload_n 0, 1, 0, 0, 0, 0), some (.getfield 45, 3, 1, 9, 284, 0), none, none, some (.iload 4, 2, 0, 0, 0, 0), none, some (.iaload, 1, 0, 0, 0, 0), some (.ireturn, 1, 0, 0, 0, 0), some (.iinc 4 1, 3, 0, 0, 0, 0), none, none, some (.goto (-43), 3, 3, 0, 0, 0), none, none, some (.iconst 0, 1, 0, 0, 0, 0), some (.ireturn, 1, 0, 0, 0, 0)]
def am_q17 : List (Option am_I) := [some (.aload_n 0, 1, 0, 0, 0, 0), some (.invokespecial 3, 3, 99999, 0, 341, 0), none, none, some (.aload_n 0, 1, 0, 0, 0, 0), some (.bipush 40, 2, 0, 0, 0, 0), none, some (.newarray .char, 2, 3, 0, 0, 0), none, some (.putfield 9, 3, 2, 0, 342, 0), none, none, some (.aload_n 0, 1, 0, 0, 0, 0), some (.iconst 0, 1, 0, 0, 0, 0), some (.putfield 15, 3, 2, 1, 343, 0), none, none, some (.aload_n 0, 1, 0, 0, 0, 0), some (.iconst 0, 1, 0, 0, 0, 0), some (.putfield 19, 3, 2, 2, 344, 0), none, none, some (.aload_n 0, 1, 0, 0, 0, 0), some (.iconst 0, 1, 0, 0, 0, 0), some (.putfield 22, 3, 2, 3, 345, 0), none, none, some (.aload_n 0, 1, 0, 0, 0, 0), some (.bipush 11, 2, 0, 0, 0, 0), none, some (.newarray .int, 2, 0, 0, 0, 0), none, some (.putfield 25, 3, 2, 4, 346, 0), none, none, some (.aload_n 0, 1, 0, 0, 0, 0), some (.bipush 11, 2, 0, 0, 0, 0), none, some (.newarray .char, 2, 3, 0, 0, 0), none, some (.putfield 29, 3, 2, 5, 347, 0), none, none, some (.aload_n 0, 1, 0, 0, 0, 0), some (.bipush 11, 2, 0, 0, 0, 0), none, some (.newarray .long, 2, 1, 0, 0, 0), none, some (.putfield 32, 3, 2, 6, 348, 0), none, none, some (.aload_n 0, 1, 0, 0, 0, 0), some (.iconst 0, 1, 0, 0, 0, 0), some (.putfield 36, 3, 2, 7, 349, 0), none, none, some (.aload_n 0, 1, 0, 0, 0, 0), some (.iconst 0, 1, 0, 0, 0, 0), some (.putfield 39, 3, 2, 8, 350, 0), none, none, some (.aload_n 0, 1, 0, 0, 0, 0), some (.iconst 0, 1, 0, 0, 0, 0), some (.putfield 42, 3, 2, 9, 351, 0), none, none, some (.aload_n 0, 1, 0, 0, 0, 0), some (.iconst 0, 1, 0, 0, 0, 0), some (.putfield 45, 3, 2, 10, 352, 0), none, none, some (.aload_n 0, 1, 0, 0, 0, 0), some (.iconst 0, 1, 0, 0, 0, 0), some (.putfield 48, 3, 2, 11, 353, 0), none, none, some (.return_, 1, 0, 0, 0, 0)]
def am_q18 : List (Option am_I) := [some (.aload_n 0, 1, 0, 0, 0, 0), some (.getfield 15, 3, 2, 1, 343, 0), none, none, some (.bipush 40, 2, 0, 0, 0, 0), none, some (.if_icmp .eq 15, 3, 21, 0, 0, 0), none, none, some (.iload_n 1, 1, 0, 0, 0, 0), some (.bipush 32, 2, 0, 0, 0, 0), none, some (.if_icmp .lt 9, 3, 21, 0, 0, 0), none, none, some (.iload_n 1, 1, 0, 0, 0, 0), some (.bipush 126, 2, 0, 0, 0, 0), none, some (.if_icmp .le 5, 3, 23, 0, 0, 0), none, none, some (.iconst 0, 1, 0, 0, 0, 0), some (.ireturn, 1, 0, 0, 0, 0), some (.aload_n 0, 1, 0, 0, 0, 0), some (.getfield 9, 3, 2, 0, 342, 0), none, none, some (.aload_n 0, 1, 0, 0, 0, 0), some (.getfield 15, 3, 2, 1, 343, 0), none, none, some (.iload_n 1, 1, 0, 0, 0, 0), some (.castore, 1, 0, 0, 0, 0), some (.aload_n 0, 1, 0, 0, 0, 0), some (.dup, 1, 0, 0, 0, 0), some (.getfield 15, 3, 2, 1, 343, 0), none, none, some (.iconst 1, 1, 0, 0, 0, 0), some (.iadd, 1, 0, 0, 0, 0), some (.putfield 15, 3, 2, 1, 343, 0), none, none, some (.iconst 1, 1, 0, 0, 0, 0), some (.ireturn, 1, 0, 0, 0, 0)]
def am_q19 : List (Option am_I) := [some (.aload_n 0, 1, 0, 0, 0, 0), some (.getfield 15, 3, 2, 1, 343, 0), none, none, some (.istore_n 1, 1, 0, 0, 0, 0), some (.aload_n 0, 1, 0, 0, 0, 0), some (.iconst 0, 1, 0, 0, 0, 0), some (.putfield 15, 3, 2, 1, 343, 0), none, none, some (.aload_n 0, 1, 0, 0, 0, 0), some (.iconst 0, 1, 0, 0, 0, 0), some (.putfield 19, 3, 2, 2, 344, 0), none, none, some (.aload_n 0, 1, 0, 0, 0, 0), some (.iconst 0, 1, 0, 0, 0, 0), some (.putfield 22, 3, 2, 3, 345, 0), none, none, some (.aload_n 0, 1, 0, 0, 0, 0), some (.iconst 0, 1, 0, 0, 0, 0), some (.putfield 39, 3, 2, 8, 350, 0), none, none, some (.aload_n 0, 1, 0, 0, 0, 0), some (.iconst 0, 1, 0, 0, 0, 0), some (.putfield 42, 3, 2, 9, 351, 0), none, none, some (.aload_n 0, 1, 0, 0, 0, 0), some (.iconst 0, 1, 0, 0, 0, 0), some (.putfield 36, 3, 2, 7, 349, 0), none, none, some (.iconst 0, 1, 0, 0, 0, 0), some (.istore_n 2, 1, 0, 0, 0, 0), some (.iload_n 2, 1, 0, 0, 0, 0), some (.iload_n 1, 1, 0, 0, 0, 0), some (.if_icmp .ge 34, 3, 73, 0, 0, 0), none, none, some (.aload_n 0, 1, 0, 0, 0, 0), some (.aload_n 0, 1, 0, 0, 0, 0), some (.aload_n 0, 1, 0, 0, 0, 0), some (.getfield 9, 3, 2, 0, 342, 0), none, none, some (.iload_n 2, 1, 0, 0, 0, 0), some (.caload, 1, 0, 0, 0, 0), some (.invokevirtual 52, 3, 20, 2, 874, 0), none, none, some (.putfield 36, 3, 2, 7, 349, 0), none, none, some (.aload_n 0, 1, 0, 0, 0, 0), some (.getfield 36, 3, 2, 7, 349, 0), none, none, some (.bipush 9, 2, 0, 0, 0, 0), none, some (.if_icmp .ne 5, 3, 67, 0, 0, 0), none, none, some (.iload_n 2, 1, 0, 0, 0, 0), some (.ireturn, 1, 0, 0, 0, 0), some (.iinc 2 1, 3, 0, 0, 0, 0), none, none, some (.goto (-33), 3, 37, 0, 0, 0), none, none, some (.aload_n 0, 1, 0, 0, 0, 0), some (.getfield 36, 3, 2, 7, 349, 0), none, none, some (.ifCond .eq 20, 3, 97, 0, 0, 0), none, none, some (.aload_n 0, 1, 0, 0, 0, 0), some (.getfield 36, 3, 2, 7, 349, 0), none, none, some (.iconst 2, 1, 0, 0, 0, 0), some (.if_icmp .eq 12, 3, 97, 0, 0, 0), none, none, some (.aload_n 0, 1, 0, 0, 0, 0), some (.getfield 36, 3, 2, 7, 349, 0), none, none, some (.bipush 7, 2, 0, 0, 0, 0), none, some (.if_icmp .ne 7, 3, 101, 0, 0, 0), none, none, some (.iconst 1, 1, 0, 0, 0, 0), some (.goto 4, 3, 102, 0, 0, 0), none, none, some (.iconst 0, 1, 0, 0, 0, 0), some (.istore_n 2, 1, 0, 0, 0, 0), some (.iload_n 2, 1, 0, 0, 0, 0), some (.ifCond .eq 7, 3, 111, 0, 0, 0), none, none, some (.iconst (-1), 1, 0, 0, 0, 0), some (.goto 4, 3, 112, 0, 0, 0), none, none, some (.iload_n 1, 1, 0, 0, 0, 0), some (.ireturn, 1, 0, 0, 0, 0)]
def am_q20 : List (Option am_I) := [some (.aload_n 0, 1, 0, 0, 0, 0), some (.getfield 36, 3, 2, 7, 349, 0), none, none, some (.tableswitch 148 0 7 #[48, 74, 148, 87, 148, 106, 125, 131], 48, 0, 0, 0, 0), none, none, none, none, none, none, none, none, none, none, none, none, none, none, none, none, none, none, none, none, none, none, none, none, none, none, none, none, none, none, none, none, none, none, none, none, none, none, none, none, none, none, none, none, none, none, none, some (.iload_n 1, 1, 0, 0, 0, 0), some (.bipush 65, 2, 0, 0, 0, 0), none, some (.if_icmp .lt 17, 3, 72, 0, 0, 0), none, none, some (.iload_n 1, 1, 0, 0, 0, 0), some (.bipush 90, 2, 0, 0, 0, 0), none, some (.if_icmp .gt 11, 3, 72, 0, 0, 0), none, none, some (.aload_n 0, 1, 0, 0, 0, 0), some (.iload_n 1, 1, 0, 0, 0, 0), some (.invokevirtual 56, 3, 21, 2, 878, 0), none, none, some (.goto 8, 3, 77, 0, 0, 0), none, none, some (.aload_n 0, 1, 0, 0, 0, 0), some (.iload_n 1, 1, 0, 0, 0, 0), some (.invokevirtual 59, 3, 22, 2, 882, 0), none, none, some (.ireturn, 1, 0, 0, 0, 0), some (.iload_n 1, 1, 0, 0, 0, 0), some (.bipush 58, 2, 0, 0, 0, 0), none, some (.if_icmp .ne 7, 3, 88, 0, 0, 0), none, none, some (.iconst 2, 1, 0, 0, 0, 0), some (.goto 5, 3, 90, 0, 0, 0), none, none, some (.bipush 9, 2, 0, 0, 0, 0), none, some (.ireturn, 1, 0, 0, 0, 0), some (.iload_n 1, 1, 0, 0, 0, 0), some (.bipush 46, 2, 0, 0, 0, 0), none, some (.if_icmp .ne 10, 3, 104, 0, 0, 0), none, none, some (.aload_n 0, 1, 0, 0, 0, 0), some (.invokevirtual 62, 3, 23, 1, 886, 0), none, none, some (.goto 8, 3, 109, 0, 0, 0), none, none, some (.aload_n 0, 1, 0, 0, 0, 0), some (.iload_n 1, 1, 0, 0, 0, 0), some (.invokevirtual 66, 3, 24, 2, 890, 0), none, none, some (.ireturn, 1, 0, 0, 0, 0), some (.iload_n 1, 1, 0, 0, 0, 0), some (.bipush 45, 2, 0, 0, 0, 0), none, some (.if_icmp .ne 10, 3, 123, 0, 0, 0), none, none, some (.aload_n 0, 1, 0, 0, 0, 0), some (.invokevirtual 69, 3, 25, 1, 894, 0), none, none, some (.goto 8, 3, 128, 0, 0, 0), none, none, some (.aload_n 0, 1, 0, 0, 0, 0), some (.iload_n 1, 1, 0, 0, 0, 0), some (.invokevirtual 72, 3, 26, 2, 898, 0), none, none, some (.ireturn, 1, 0, 0, 0, 0), some (.aload_n 0, 1, 0, 0, 0, 0), some (.iload_n 1, 1, 0, 0, 0, 0), some (.invokevirtual 72, 3, 26, 2, 898, 0), none, none, some (.ireturn, 1, 0, 0, 0, 0), some (.iload_n 1, 1, 0, 0, 0, 0), some (.bipush 38, 2, 0, 0, 0, 0), none, some (.if_icmp .ne 8, 3, 146, 0, 0, 0), none, none, some (.bipush 8, 2, 0, 0, 0, 0), none, some (.goto 8, 3, 151, 0, 0, 0), none, none, some (.aload_n 0, 1, 0, 0, 0, 0), some (.iload_n 1, 1, 0, 0, 0, 0), some (.invokevirtual 72, 3, 26, 2, 898, 0), none, none, some (.ireturn, 1, 0, 0, 0, 0), some (.aload_n 0, 1, 0, 0, 0, 0), some (.iload_n 1, 1, 0, 0, 0, 0), some (.invokevirtual 59, 3, 22, 2, 882, 0), none, none, some (.ireturn, 1, 0, 0, 0, 0)]
def am_q21 : List (Option am_I) := [some (.aload_n 0, 1, 0, 0, 0, 0), some (.iload_n 1, 1, 0, 0, 0, 0), some (.putfield 19, 3, 2, 2, 344, 0), none, none, some (.iconst 1, 1, 0, 0, 0, 0), some (.ireturn, 1, 0, 0, 0, 0)]
def am_q22 : List (Option am_I) := [some (.iload_n 1, 1, 0, 0, 0, 0), some (.bipush 97, 2, 0, 0, 0, 0), none, some (.if_icmp .lt 9, 3, 12, 0, 0, 0), none, none, some (.iload_n 1, 1, 0, 0, 0, 0), some (.bipush 122, 2, 0, 0, 0, 0), none, some (.if_icmp .le 18, 3, 27, 0, 0, 0), none, none, some (.iload_n 1, 1, 0, 0, 0, 0), some (.bipush 48, 2, 0, 0, 0, 0), none, some (.if_icmp .lt 9, 3, 24, 0, 0, 0), none, none, some (.iload_n 1, 1, 0, 0, 0, 0), some (.bipush 57, 2, 0, 0, 0, 0), none, some (.if_icmp .le 6, 3, 27, 0, 0, 0), none, none, some (.bipush 9, 2, 0, 0, 0, 0), none, some (.ireturn, 1, 0, 0, 0, 0), some (.aload_n 0, 1, 0, 0, 0, 0), some (.dup, 1, 0, 0, 0, 0), some (.getfield 39, 3, 2, 8, 350, 0), none, none, some (.iload_n 1, 1, 0, 0, 0, 0), some (.bipush 8, 2, 0, 0, 0, 0), none, some (.aload_n 0, 1, 0, 0, 0, 0), some (.getfield 42, 3, 2, 9, 351, 0), none, none, some (.imul, 1, 0, 0, 0, 0), some (.ishl, 1, 0, 0, 0, 0), some (.ior, 1, 0, 0, 0, 0), some (.putfield 39, 3, 2, 8, 350, 0), none, none, some (.aload_n 0, 1, 0, 0, 0, 0), some (.dup, 1, 0, 0, 0, 0), some (.getfield 42, 3, 2, 9, 351, 0), none, none, some (.iconst 1, 1, 0, 0, 0, 0), some (.iadd, 1, 0, 0, 0, 0), some (.putfield 42, 3, 2, 9, 351, 0), none, none, some (.iconst 3, 1, 0, 0, 0, 0), some (.ireturn, 1, 0, 0, 0, 0)]
def am_q23 : List (Option am_I) := [some (.aload_n 0, 1, 0, 0, 0, 0), some (.getfield 42, 3, 2, 9, 351, 0), none, none, some (.iconst 4, 1, 0, 0, 0, 0), some (.if_icmp .ge 7, 3, 12, 0, 0, 0), none, none, some (.iconst 4, 1, 0, 0, 0, 0), some (.goto 5, 3, 14, 0, 0, 0), none, none, some (.bipush 9, 2, 0, 0, 0, 0), none, some (.ireturn, 1, 0, 0, 0, 0)]
def am_q24 : List (Option am_I) := [some (.iload_n 1, 1, 0, 0, 0, 0), some (.bipush 61, 2, 0, 0, 0, 0), none, some (.if_icmp .eq 21, 3, 24, 0, 0, 0), none, none, some (.iload_n 1, 1, 0, 0, 0, 0), some (.bipush 35, 2, 0, 0, 0, 0), none, some (.if_icmp .eq 15, 3, 24, 0, 0, 0), none, none, some (.iload_n 1, 1, 0, 0, 0, 0), some (.bipush 60, 2, 0, 0, 0, 0), none, some (.if_icmp .eq 9, 3, 24, 0, 0, 0), none, none, some (.iload_n 1, 1, 0, 0, 0, 0), some (.bipush 62, 2, 0, 0, 0, 0), none, some (.if_icmp .ne 12, 3, 33, 0, 0, 0), none, none, some (.aload_n 0, 1, 0, 0, 0, 0), some (.getfield 22, 3, 2, 3, 345, 0), none, none, some (.bipush 11, 2, 0, 0, 0, 0), none, some (.if_icmp .ne 6, 3, 36, 0, 0, 0), none, none, some (.bipush 9, 2, 0, 0, 0, 0), none, some (.ireturn, 1, 0, 0, 0, 0), some (.aload_n 0, 1, 0, 0, 0, 0), some (.getfield 25, 3, 2, 4, 346, 0), none, none, some (.aload_n 0, 1, 0, 0, 0, 0), some (.getfield 22, 3, 2, 3, 345, 0), none, none, some (.aload_n 0, 1, 0, 0, 0, 0), some (.getfield 39, 3, 2, 8, 350, 0), none, none, some (.iastore, 1, 0, 0, 0, 0), some (.aload_n 0, 1, 0, 0, 0, 0), some (.getfield 29, 3, 2, 5, 347, 0), none, none, some (.aload_n 0, 1, 0, 0, 0, 0), some (.getfield 22, 3, 2, 3, 345, 0), none, none, some (.iload_n 1, 1, 0, 0, 0, 0), some (.castore, 1, 0, 0, 0, 0), some (.aload_n 0, 1, 0, 0, 0, 0), some (.getfield 32, 3, 2, 6, 348, 0), none, none, some (.aload_n 0, 1, 0, 0, 0, 0), some (.getfield 22, 3, 2, 3, 345, 0), none, none, some (.lconst 0, 1, 0, 0, 0, 0), some (.lastore, 1, 0, 0, 0, 0), some (.aload_n 0, 1, 0, 0, 0, 0), some (.dup, 1, 0, 0, 0, 0), some (.getfield 22, 3, 2, 3, 345, 0), none, none, some (.iconst 1, 1, 0, 0, 0, 0), some (.iadd, 1, 0, 0, 0, 0), some (.putfield 22, 3, 2, 3, 345, 0), none, none, some (.aload_n 0, 1, 0, 0, 0, 0), some (.iconst 0, 1, 0, 0, 0, 0), some (.putfield 39, 3, 2, 8, 350, 0), none, none, some (.aload_n 0, 1, 0, 0, 0, 0), some (.iconst 0, 1, 0, 0, 0, 0), some (.putfield 42, 3, 2, 9, 351, 0), none, none, some (.aload_n 0, 1, 0, 0, 0, 0), some (.iconst 0, 1, 0, 0, 0, 0), some (.putfield 45, 3, 2, 10, 352, 0), none, none, some (.aload_n 0, 1, 0, 0, 0, 0), some (.iconst 0, 1, 0, 0, 0, 0), some (.putfield 48, 3, 2, 11, 353, 0), none, none, some (.iconst 5, 1, 0, 0, 0, 0), some (.ireturn, 1, 0, 0, 0, 0)]
def am_q25 : List (Option am_I) := [some (.aload_n 0, 1, 0, 0, 0, 0), some (.iconst 1, 1, 0, 0, 0, 0), some (.putfield 48, 3, 2, 11, 353, 0), none, none, some (.bipush 6, 2, 0, 0, 0, 0), none, some (.ireturn, 1, 0, 0, 0, 0)]
def am_q26 : List (Option am_I) := [some (.iload_n 1, 1, 0, 0, 0, 0), some (.bipush 48, 2, 0, 0, 0, 0), none, some (.if_icmp .lt 25, 3, 28, 0, 0, 0), none, none, some (.iload_n 1, 1, 0, 0, 0, 0), some (.bipush 57, 2, 0, 0, 0, 0), none, some (.if_icmp .gt 19, 3, 28, 0, 0, 0), none, none, some (.aload_n 0, 1, 0, 0, 0, 0), some (.getfield 45, 3, 2, 10, 352, 0), none, none, some (.bipush 9, 2, 0, 0, 0, 0), none, some (.if_icmp .eq 10, 3, 28, 0, 0, 0), none, none, some (.aload_n 0, 1, 0, 0, 0, 0), some (.getfield 22, 3, 2, 3, 345, 0), none, none, some (.ifCond .ne 6, 3, 31, 0, 0, 0), none, none, some (.bipush 9, 2, 0, 0, 0, 0), none, some (.ireturn, 1, 0, 0, 0, 0), some (.iload_n 1, 1, 0, 0, 0, 0), some (.bipush 48, 2, 0, 0, 0, 0), none, some (.isub, 1, 0, 0, 0, 0), some (.istore_n 2, 1, 0, 0, 0, 0), some (.aload_n 0, 1, 0, 0, 0, 0), some (.getfield 32, 3, 2, 6, 348, 0), none, none, some (.aload_n 0, 1, 0, 0, 0, 0), some (.getfield 22, 3, 2, 3, 345, 0), none, none, some (.iconst 1, 1, 0, 0, 0, 0), some (.isub, 1, 0, 0, 0, 0), some (.aload_n 0, 1, 0, 0, 0, 0), some (.getfield 32, 3, 2, 6, 348, 0), none, none, some (.aload_n 0, 1, 0, 0, 0, 0), some (.getfield 22, 3, 2, 3, 345, 0), none, none, some (.iconst 1, 1, 0, 0, 0, 0), some (.isub, 1, 0, 0, 0, 0), some (.laload, 1, 0, 0, 0, 0), some (.ldc2_w 75, 3, 0, 0, 902, 10), none, none, some (.lmul, 1, 0, 0, 0, 0), some (.aload_n 0, 1, 0, 0, 0, 0), some (.getfield 48, 3, 2, 11, 353, 0), none, none, some (.ifCond .eq 8, 3, 73, 0, 0, 0), none, none, some (.iload_n 2, 1, 0, 0, 0, 0), some (.ineg, 1, 0, 0, 0, 0), some (.goto 4, 3, 74, 0, 0, 0), none, none, some (.iload_n 2, 1, 0, 0, 0, 0), some (.i2l, 1, 0, 0, 0, 0), some (.ladd, 1, 0, 0, 0, 0), some (.lastore, 1, 0, 0, 0, 0), some (.aload_n 0, 1, 0, 0, 0, 0), some (.dup, 1, 0, 0, 0, 0), some (.getfield 45, 3, 2, 10, 352, 0), none, none, some (.iconst 1, 1, 0, 0, 0, 0), some (.iadd, 1, 0, 0, 0, 0), some (.putfield 45, 3, 2, 10, 352, 0), none, none, some (.bipush 7, 2, 0, 0, 0, 0), none, some (.ireturn, 1, 0, 0, 0, 0)]
def am_q27 : List (Option am_I) := [some (.aload_n 1, 1, 0, 0, 0, 0), some (.getfield 77, 3, 4, 2, 311, 0), none, none, some (.astore_n 3, 1, 0, 0, 0, 0), some (.aload_n 0, 1, 0, 0, 0, 0), some (.getfield 19, 3, 2, 2, 344, 0), none, none, some (.ifCond .eq 25, 3, 34, 0, 0, 0), none, none, some (.aload_n 3, 1, 0, 0, 0, 0), some (.getfield 83, 3, 8, 2, 202, 0), none, none, some (.aload_n 1, 1, 0, 0, 0, 0), some (.getfield 88, 3, 4, 6, 320, 0), none, none, some (.iload_n 2, 1, 0, 0, 0, 0), some (.iaload, 1, 0, 0, 0, 0), some (.laload, 1, 0, 0, 0, 0), some (.aload_n 0, 1, 0, 0, 0, 0), some (.getfield 19, 3, 2, 2, 344, 0), none, none, some (.i2l, 1, 0, 0, 0, 0), some (.lcmp, 1, 0, 0, 0, 0), some (.ifCond .eq 5, 3, 34, 0, 0, 0), none, none, some (.iconst 0, 1, 0, 0, 0, 0), some (.ireturn, 1, 0, 0, 0, 0), some (.iconst 0, 1, 0, 0, 0, 0), some (.istore 4, 2, 0, 0, 0, 0), none, some (.iload 4, 2, 0, 0, 0, 0), none, some (.aload_n 0, 1, 0, 0, 0, 0), some (.getfield 22, 3, 2, 3, 345, 0), none, none, some (.if_icmp .ge 62, 3, 105, 0, 0, 0), none, none, some (.aload_n 1, 1, 0, 0, 0, 0), some (.iload_n 2, 1, 0, 0, 0, 0), some (.aload_n 0, 1, 0, 0, 0, 0), some (.getfield 25, 3, 2, 4, 346, 0), none, none, some (.iload 4, 2, 0, 0, 0, 0), none, some (.iaload, 1, 0, 0, 0, 0), some (.invokevirtual 91, 3, 38, 3, 907, 0), none, none, some (.istore 5, 2, 0, 0, 0, 0), none, some (.aload_n 3, 1, 0, 0, 0, 0), some (.iload 5, 2, 0, 0, 0, 0), none, some (.invokevirtual 95, 3, 70, 2, 908, 0), none, none, some (.ifCond .eq 31, 3, 97, 0, 0, 0), none, none, some (.aload_n 0, 1, 0, 0, 0, 0), some (.aload_n 0, 1, 0, 0, 0, 0), some (.getfield 29, 3, 2, 5, 347, 0), none, none, some (.iload 4, 2, 0, 0, 0, 0), none, some (.caload, 1, 0, 0, 0, 0), some (.aload_n 3, 1, 0, 0, 0, 0), some (.getfield 83, 3, 8, 2, 202, 0), none, none, some (.iload 5, 2, 0, 0, 0, 0), none, some (.laload, 1, 0, 0, 0, 0), some (.aload_n 0, 1, 0, 0, 0, 0), some (.getfield 32, 3, 2, 6, 348, 0), none, none, some (.iload 4, 2, 0, 0, 0, 0), none, some (.laload, 1, 0, 0, 0, 0), some (.invokevirtual 99, 3, 28, 4, 909, 0), none, none, some (.ifCond .ne 5, 3, 99, 0, 0, 0), none, none, some (.iconst 0, 1, 0, 0, 0, 0), some (.ireturn, 1, 0, 0, 0, 0), some (.iinc 4 1, 3, 0, 0, 0, 0), none, none, some (.goto (-65), 3, 37, 0, 0, 0), none, none, some (.iconst 1, 1, 0, 0, 0, 0), some (.ireturn, 1, 0, 0, 0, 0)]
def am_q28 : List (Option am_I) := [some (.iload_n 1, 1, 0, 0, 0, 0), some (.lookupswitch 74 #[(35, 48), (60, 61), (61, 35)], 35, 0, 0, 0, 0), none, none, none, none, none, none, none, none, none, none, none, none, none, none, none, none, none, none, none, none, none, none, none, none, none, none, none, none, none, none, none, none, none, none, some (.lload_n 2, 1, 0, 0, 0, 0), some (.lload 4, 2, 0, 0, 0, 0), none, some (.lcmp, 1, 0, 0, 0, 0), some (.ifCond .ne 7, 3, 47, 0, 0, 0), none, none, some (.iconst 1, 1, 0, 0, 0, 0), some (.goto 4, 3, 48, 0, 0, 0), none, none, some (.iconst 0, 1, 0, 0, 0, 0), some (.ireturn, 1, 0, 0, 0, 0), some (.lload_n 2, 1, 0, 0, 0, 0), some (.lload 4, 2, 0, 0, 0, 0), none, some (.lcmp, 1, 0, 0, 0, 0), some (.ifCond .eq 7, 3, 60, 0, 0, 0), none, none, some (.iconst 1, 1, 0, 0, 0, 0), some (.goto 4, 3, 61, 0, 0, 0), none, none, some (.iconst 0, 1, 0, 0, 0, 0), some (.ireturn, 1, 0, 0, 0, 0), some (.lload_n 2, 1, 0, 0, 0, 0), some (.lload 4, 2, 0, 0, 0, 0), none, some (.lcmp, 1, 0, 0, 0, 0), some (.ifCond .ge 7, 3, 73, 0, 0, 0), none, none, some (.iconst 1, 1, 0, 0, 0, 0), some (.goto 4, 3, 74, 0, 0, 0), none, none, some (.iconst 0, 1, 0, 0, 0, 0), some (.ireturn, 1, 0, 0, 0, 0), some (.lload_n 2, 1, 0, 0, 0, 0), some (.lload 4, 2, 0, 0, 0, 0), none, some (.lcmp, 1, 0, 0, 0, 0), some (.ifCond .le 7, 3, 86, 0, 0, 0), none, none, some (.iconst 1, 1, 0, 0, 0, 0), some (.goto 4, 3, 87, 0, 0, 0), none, none, some (.iconst 0, 1, 0, 0, 0, 0), some (.ireturn, 1, 0, 0, 0, 0)]
def am_q29 : List (Option am_I) := [some (.aload_n 0, 1, 0, 0, 0, 0), some (.invokespecial 3, 3, 99999, 0, 398, 0), none, none, some (.aload_n 0, 1, 0, 0, 0, 0), some (.iconst 0, 1, 0, 0, 0, 0), some (.putfield 9, 3, 3, 0, 399, 0), none, none, some (.aload_n 0, 1, 0, 0, 0, 0), some (.bipush 60, 2, 0, 0, 0, 0), none, some (.newarray .long, 2, 1, 0, 0, 0), none, some (.putfield 15, 3, 3, 1, 401, 0), none, none, some (.aload_n 0, 1, 0, 0, 0, 0), some (.bipush 60, 2, 0, 0, 0, 0), none, some (.newarray .int, 2, 0, 0, 0, 0), none, some (.putfield 19, 3, 3, 2, 403, 0), none, none, some (.aload_n 0, 1, 0, 0, 0, 0), some (.bipush 60, 2, 0, 0, 0, 0), none, some (.newarray .int, 2, 0, 0, 0, 0), none, some (.putfield 23, 3, 3, 3, 405, 0), none, none, some (.aload_n 0, 1, 0, 0, 0, 0), some (.bipush 60, 2, 0, 0, 0, 0), none, some (.newarray .long, 2, 1, 0, 0, 0), none, some (.putfield 26, 3, 3, 4, 407, 0), none, none, some (.aload_n 0, 1, 0, 0, 0, 0), some (.bipush 60, 2, 0, 0, 0, 0), none, some (.newarray .long, 2, 1, 0, 0, 0), none, some (.putfield 29, 3, 3, 5, 409, 0), none, none, some (.aload_n 0, 1, 0, 0, 0, 0), some (.bipush 60, 2, 0, 0, 0, 0), none, some (.newarray .long, 2, 1, 0, 0, 0), none, some (.putfield 32, 3, 3, 6, 411, 0), none, none, some (.return_, 1, 0, 0, 0, 0)]
def am_q30 : List (Option am_I) := [some (.aload_n 0, 1, 0, 0, 0, 0), some (.iconst 0, 1, 0, 0, 0, 0), some (.putfield 9, 3, 3, 0, 399, 0), none, none, some (.return_, 1, 0, 0, 0, 0)]
def am_q31 : List (Option am_I) := [some (.iconst 0, 1, 0, 0, 0, 0), some (.istore_n 3, 1, 0, 0, 0, 0), some (.iload_n 3, 1, 0, 0, 0, 0), some (.aload_n 0, 1, 0, 0, 0, 0), some (.getfield 9, 3, 3, 0, 399, 0), none, none, some (.if_icmp .ge 20, 3, 27, 0, 0, 0), none, none, some (.aload_n 0, 1, 0, 0, 0, 0), some (.getfield 15, 3, 3, 1, 401, 0), none, none, some (.iload_n 3, 1, 0, 0, 0, 0), some (.laload, 1, 0, 0, 0, 0), some (.lload_n 1, 1, 0, 0, 0, 0), some (.lcmp, 1, 0, 0, 0, 0), some (.ifCond .eq 9, 3, 27, 0, 0, 0), none, none, some (.iinc 3 1, 3, 0, 0, 0, 0), none, none, some (.goto (-22), 3, 2, 0, 0, 0), none, none, some (.iload_n 3, 1, 0, 0, 0, 0), some (.aload_n 0, 1, 0, 0, 0, 0), some (.getfield 9, 3, 3, 0, 399, 0), none, none, some (.if_icmp .ne 55, 3, 87, 0, 0, 0), none, none, some (.aload_n 0, 1, 0, 0, 0, 0), some (.getfield 15, 3, 3, 1, 401, 0), none, none, some (.iload_n 3, 1, 0, 0, 0, 0), some (.lload_n 1, 1, 0, 0, 0, 0), some (.lastore, 1, 0, 0, 0, 0), some (.aload_n 0, 1, 0, 0, 0, 0), some (.getfield 19, 3, 3, 2, 403, 0), none, none, some (.iload_n 3, 1, 0, 0, 0, 0), some (.iconst 0, 1, 0, 0, 0, 0), some (.iastore, 1, 0, 0, 0, 0), some (.aload_n 0, 1, 0, 0, 0, 0), some (.getfield 23, 3, 3, 3, 405, 0), none, none, some (.iload_n 3, 1, 0, 0, 0, 0), some (.iconst 0, 1, 0, 0, 0, 0), some (.iastore, 1, 0, 0, 0, 0), some (.aload_n 0, 1, 0, 0, 0, 0), some (.getfield 26, 3, 3, 4, 407, 0), none, none, some (.iload_n 3, 1, 0, 0, 0, 0), some (.lconst 0, 1, 0, 0, 0, 0), some (.lastore, 1, 0, 0, 0, 0), some (.aload_n 0, 1, 0, 0, 0, 0), some (.getfield 29, 3, 3, 5, 409, 0), none, none, some (.iload_n 3, 1, 0, 0, 0, 0), some (.lconst 0, 1, 0, 0, 0, 0), some (.lastore, 1, 0, 0, 0, 0), some (.aload_n 0, 1, 0, 0, 0, 0), some (.getfield 32, 3, 3, 6, 411, 0), none, none, some (.iload_n 3, 1, 0, 0, 0, 0), some (.lconst 0, 1, 0, 0, 0, 0), some (.lastore, 1, 0, 0, 0, 0), some (.aload_n 0, 1, 0, 0, 0, 0), some (.dup, 1, 0, 0, 0, 0), some (.getfield 9, 3, 3, 0, 399, 0), none, none, some (.iconst 1, 1, 0, 0, 0, 0), some (.iadd, 1, 0, 0, 0, 0), some (.putfield 9, 3, 3, 0, 399, 0), none, none, some (.aload_n 0, 1, 0, 0, 0, 0), some (.getfield 19, 3, 3, 2, 403, 0), none, none, some (.iload_n 3, 1, 0, 0, 0, 0), some (.dup2, 1, 0, 0, 0, 0), some (.iaload, 1, 0, 0, 0, 0), some (.iconst 1, 1, 0, 0, 0, 0), some (.iadd, 1, 0, 0, 0, 0), some (.iastore, 1, 0, 0, 0, 0), some (.iload_n 3, 1, 0, 0, 0, 0), some (.ireturn, 1, 0, 0, 0, 0)]
def am_q32 : List (Option am_I) := [some (.aload_n 0, 1, 0, 0, 0, 0), some (.getfield 29, 3, 3, 5, 409, 0), none, none, some (.iload_n 1, 1, 0, 0, 0, 0), some (.aload_n 0, 1, 0, 0, 0, 0), some (.getfield 23, 3, 3, 3, 405, 0), none, none, some (.iload_n 1, 1, 0, 0, 0, 0), some (.iaload, 1, 0, 0, 0, 0), some (.ifCond .ne 7, 3, 18, 0, 0, 0), none, none, some (.lload_n 2, 1, 0, 0, 0, 0), some (.goto 13, 3, 28, 0, 0, 0), none, none, some (.aload_n 0, 1, 0, 0, 0, 0), some (.getfield 29, 3, 3, 5, 409, 0), none, none, some (.iload_n 1, 1, 0, 0, 0, 0), some (.laload, 1, 0, 0, 0, 0), some (.lload_n 2, 1, 0, 0, 0, 0), some (.invokestatic 35, 3, 166, 2, 531, 0), none, none, some (.lastore, 1, 0, 0, 0, 0), some (.aload_n 0, 1, 0, 0, 0, 0), some (.getfield 32, 3, 3, 6, 411, 0), none, none, some (.iload_n 1, 1, 0, 0, 0, 0), some (.aload_n 0, 1, 0, 0, 0, 0), some (.getfield 23, 3, 3, 3, 405, 0), none, none, some (.iload_n 1, 1, 0, 0, 0, 0), some (.iaload, 1, 0, 0, 0, 0), some (.ifCond .ne 7, 3, 47, 0, 0, 0), none, none, some (.lload_n 2, 1, 0, 0, 0, 0), some (.goto 13, 3, 57, 0, 0, 0), none, none, some (.aload_n 0, 1, 0, 0, 0, 0), some (.getfield 32, 3, 3, 6, 411, 0), none, none, some (.iload_n 1, 1, 0, 0, 0, 0), some (.laload, 1, 0, 0, 0, 0), some (.lload_n 2, 1, 0, 0, 0, 0), some (.invokestatic 41, 3, 165, 2, 534, 0), none, none, some (.lastore, 1, 0, 0, 0, 0), some (.aload_n 0, 1, 0, 0, 0, 0), some (.getfield 26, 3, 3, 4, 407, 0), none, none, some (.iload_n 1, 1, 0, 0, 0, 0), some (.dup2, 1, 0, 0, 0, 0), some (.laload, 1, 0, 0, 0, 0), some (.lload_n 2, 1, 0, 0, 0, 0), some (.ladd, 1, 0, 0, 0, 0), some (.lastore, 1, 0, 0, 0, 0), some (.aload_n 0, 1, 0, 0, 0, 0), some (.getfield 23, 3, 3, 3, 405, 0), none, none, some (.iload_n 1, 1, 0, 0, 0, 0), some (.dup2, 1, 0, 0, 0, 0), some (.iaload, 1, 0, 0, 0, 0), some (.iconst 1, 1, 0, 0, 0, 0), some (.iadd, 1, 0, 0, 0, 0), some (.iastore, 1, 0, 0, 0, 0), some (.return_, 1, 0, 0, 0, 0)]
def am_q33 : List (Option am_I) := [some (.aload_n 0, 1, 0, 0, 0, 0), some (.invokespecial 3, 3, 99999, 0, 186, 0), none, none, some (.aload_n 0, 1, 0, 0, 0, 0), some (.iconst 0, 1, 0, 0, 0, 0), some (.putfield 9, 3, 4, 0, 306, 0), none, none, some (.aload_n 0, 1, 0, 0, 0, 0), some (.iconst 4, 1, 0, 0, 0, 0), some (.anewarray 15, 3, 4, 0, 187, 0), none, none, some (.putfield 17, 3, 4, 1, 308, 0), none, none, some (.aload_n 0, 1, 0, 0, 0, 0), some (.new 21, 3, 8, 0, 189, 0), none, none, some (.dup, 1, 0, 0, 0, 0), some (.invokespecial 23, 3, 63, 1, 191, 0), none, none, some (.putfield 24, 3, 4, 2, 309, 0), none, none, some (.aload_n 0, 1, 0, 0, 0, 0), some (.iconst 0, 1, 0, 0, 0, 0), some (.putfield 28, 3, 4, 3, 312, 0), none, none, some (.aload_n 0, 1, 0, 0, 0, 0), some (.bipush 60, 2, 0, 0, 0, 0), none, some (.newarray .int, 2, 0, 0, 0, 0), none, some (.putfield 31, 3, 4, 4, 314, 0), none, none, some (.aload_n 0, 1, 0, 0, 0, 0), some (.bipush 60, 2, 0, 0, 0, 0), none, some (.newarray .long, 2, 1, 0, 0, 0), none, some (.putfield 35, 3, 4, 5, 316, 0), none, none, some (.aload_n 0, 1, 0, 0, 0, 0), some (.bipush 60, 2, 0, 0, 0, 0), none, some (.newarray .int, 2, 0, 0, 0, 0), none, some (.putfield 39, 3, 4, 6, 318, 0), none, none, some (.iconst 0, 1, 0, 0, 0, 0), some (.istore_n 1, 1, 0, 0, 0, 0), some (.iload_n 1, 1, 0, 0, 0, 0), some (.iconst 4, 1, 0, 0, 0, 0), some (.if_icmp .ge 22, 3, 83, 0, 0, 0), none, none, some (.aload_n 0, 1, 0, 0, 0, 0), some (.getfield 17, 3, 4, 1, 308, 0), none, none, some (.iload_n 1, 1, 0, 0, 0, 0), some (.new 15, 3, 1, 0, 187, 0), none, none, some (.dup, 1, 0, 0, 0, 0), some (.invokespecial 42, 3, 5, 1, 227, 0), none, none, some (.aastore, 1, 0, 0, 0, 0), some (.iinc 1 1, 3, 0, 0, 0, 0), none, none, some (.goto (-21), 3, 59, 0, 0, 0), none, none, some (.return_, 1, 0, 0, 0, 0)]
def am_q34 : List (Option am_I) := [some (.aload_n 0, 1, 0, 0, 0, 0), some (.iconst 0, 1, 0, 0, 0, 0), some (.putfield 9, 3, 4, 0, 306, 0), none, none, some (.aload_n 0, 1, 0, 0, 0, 0), some (.iconst 0, 1, 0, 0, 0, 0), some (.putfield 28, 3, 4, 3, 312, 0), none, none, some (.aload_n 0, 1, 0, 0, 0, 0), some (.getfield 24, 3, 4, 2, 309, 0), none, none, some (.invokevirtual 43, 3, 64, 1, 553, 0), none, none, some (.return_, 1, 0, 0, 0, 0)]
def am_q35 : List (Option am_I) := [some (.aload_n 0, 1, 0, 0, 0, 0), some (.getfield 9, 3, 4, 0, 306, 0), none, none, some (.iconst 4, 1, 0, 0, 0, 0), some (.if_icmp .ne 10, 3, 15, 0, 0, 0), none, none, some (.aload_n 1, 1, 0, 0, 0, 0), some (.bipush 8, 2, 0, 0, 0, 0), none, some (.iload_n 3, 1, 0, 0, 0, 0), some (.invokevirtual 46, 3, 44, 3, 561, 0), none, none, some (.aload_n 0, 1, 0, 0, 0, 0), some (.getfield 17, 3, 4, 1, 308, 0), none, none, some (.aload_n 0, 1, 0, 0, 0, 0), some (.getfield 9, 3, 4, 0, 306, 0), none, none, some (.aaload, 1, 0, 0, 0, 0), some (.astore 4, 2, 0, 0, 0, 0), none, some (.aload 4, 2, 0, 0, 0, 0), none, some (.aload_n 1, 1, 0, 0, 0, 0), some (.iload_n 3, 1, 0, 0, 0, 0), some (.invokevirtual 52, 3, 6, 3, 628, 0), none, none, some (.aload 4, 2, 0, 0, 0, 0), none, some (.aload_n 1, 1, 0, 0, 0, 0), some (.invokevirtual 56, 3, 7, 2, 643, 0), none, none, some (.aload_n 2, 1, 0, 0, 0, 0), some (.invokevirtual 60, 3, 1, 1, 710, 0), none, none, some (.iload_n 3, 1, 0, 0, 0, 0), some (.bipush 20, 2, 0, 0, 0, 0), none, some (.iadd, 1, 0, 0, 0, 0), some (.istore 5, 2, 0, 0, 0, 0), none, some (.iconst 0, 1, 0, 0, 0, 0), some (.istore 6, 2, 0, 0, 0, 0), none, some (.iload 6, 2, 0, 0, 0, 0), none, some (.sipush 960, 3, 0, 0, 0, 0), none, none, some (.if_icmp .ge 84, 3, 141, 0, 0, 0), none, none, some (.iload 5, 2, 0, 0, 0, 0), none, some (.aload 4, 2, 0, 0, 0, 0), none, some (.getfield 63, 3, 1, 1, 272, 0), none, none, some (.if_icmp .ge 74, 3, 141, 0, 0, 0), none, none, some (.aload_n 1, 1, 0, 0, 0, 0), some (.iload 5, 2, 0, 0, 0, 0), none, some (.aload 4, 2, 0, 0, 0, 0), none, some (.getfield 63, 3, 1, 1, 272, 0), none, none, some (.invokevirtual 66, 3, 51, 3, 714, 0), none, none, some (.istore 7, 2, 0, 0, 0, 0), none, some (.iload 7, 2, 0, 0, 0, 0), none, some (.iconst 1, 1, 0, 0, 0, 0), some (.if_icmp .ne 23, 3, 109, 0, 0, 0), none, none, some (.aload_n 2, 1, 0, 0, 0, 0), some (.aload_n 1, 1, 0, 0, 0, 0), some (.aload 4, 2, 0, 0, 0, 0), none, some (.aload_n 0, 1, 0, 0, 0, 0), some (.getfield 24, 3, 4, 2, 309, 0), none, none, some (.iload 5, 2, 0, 0, 0, 0), none, some (.invokevirtual 70, 3, 2, 5, 715, 0), none, none, some (.aload_n 1, 1, 0, 0, 0, 0), some (.invokevirtual 74, 3, 52, 1, 758, 0), none, none, some (.goto 23, 3, 129, 0, 0, 0), none, none, some (.iload 7, 2, 0, 0, 0, 0), none, some (.ifCond .eq 18, 3, 129, 0, 0, 0), none, none, some (.aload_n 0, 1, 0, 0, 0, 0), some (.aload_n 1, 1, 0, 0, 0, 0), some (.aload 4, 2, 0, 0, 0, 0), none, some (.iload 7, 2, 0, 0, 0, 0), none, some (.iload 5, 2, 0, 0, 0, 0), none, some (.invokevirtual 77, 3, 36, 5, 759, 0), none, none, some (.aload_n 1, 1, 0, 0, 0, 0), some (.invokevirtual 74, 3, 52, 1, 758, 0), none, none, some (.aload_n 1, 1, 0, 0, 0, 0), some (.getfield 81, 3, 5, 4, 118, 0), none, none, some (.istore 5, 2, 0, 0, 0, 0), none, some (.iinc 6 1, 3, 0, 0, 0, 0), none, none, some (.goto (-86), 3, 52, 0, 0, 0), none, none, some (.aload_n 2, 1, 0, 0, 0, 0), some (.aload_n 1, 1, 0, 0, 0, 0), some (.aload 4, 2, 0, 0, 0, 0), none, some (.invokevirtual 84, 3, 3, 3, 769, 0), none, none, some (.aload_n 0, 1, 0, 0, 0, 0), some (.dup, 1, 0, 0, 0, 0), some (.getfield 9, 3, 4, 0, 306, 0), none, none, some (.iconst 1, 1, 0, 0, 0, 0), some (.iadd, 1, 0, 0, 0, 0), some (.putfield 9, 3, 4, 0, 306, 0), none, none, some (.aload 4, 2, 0, 0, 0, 0), none, some (.getfield 63, 3, 1, 1, 272, 0), none, none, some (.ireturn, 1, 0, 0, 0, 0)]
def am_q36 : List (Option am_I) := [some (.aload_n 2, 1, 0, 0, 0, 0), some (.iload_n 3, 1, 0, 0, 0, 0), some (.invokevirtual 88, 3, 14, 2, 763, 0), none, none, some (.ifCond .ne 12, 3, 17, 0, 0, 0), none, none, some (.aload_n 1, 1, 0, 0, 0, 0), some (.iconst 3, 1, 0, 0, 0, 0), some (.aload_n 1, 1, 0, 0, 0, 0), some (.getfield 92, 3, 5, 5, 122, 0), none, none, some (.invokevirtual 46, 3, 44, 3, 561, 0), none, none, some (.aload_n 0, 1, 0, 0, 0, 0), some (.getfield 28, 3, 4, 3, 312, 0), none, none, some (.bipush 60, 2, 0, 0, 0, 0), none, some (.if_icmp .ne 11, 3, 34, 0, 0, 0), none, none, some (.aload_n 1, 1, 0, 0, 0, 0), some (.bipush 8, 2, 0, 0, 0, 0), none, some (.iload 4, 2, 0, 0, 0, 0), none, some (.invokevirtual 46, 3, 44, 3, 561, 0), none, none, some (.aload_n 0, 1, 0, 0, 0, 0), some (.getfield 31, 3, 4, 4, 314, 0), none, none, some (.aload_n 0, 1, 0, 0, 0, 0), some (.getfield 28, 3, 4, 3, 312, 0), none, none, some (.aload_n 0, 1, 0, 0, 0, 0), some (.getfield 9, 3, 4, 0, 306, 0), none, none, some (.iastore, 1, 0, 0, 0, 0), some (.aload_n 0, 1, 0, 0, 0, 0), some (.getfield 35, 3, 4, 5, 316, 0), none, none, some (.aload_n 0, 1, 0, 0, 0, 0), some (.getfield 28, 3, 4, 3, 312, 0), none, none, some (.aload_n 1, 1, 0, 0, 0, 0), some (.invokevirtual 95, 3, 49, 1, 767, 0), none, none, some (.lastore, 1, 0, 0, 0, 0), some (.aload_n 0, 1, 0, 0, 0, 0), some (.getfield 39, 3, 4, 6, 318, 0), none, none, some (.aload_n 0, 1, 0, 0, 0, 0), some (.getfield 28, 3, 4, 3, 312, 0), none, none, some (.aload_n 0, 1, 0, 0, 0, 0), some (.getfield 24, 3, 4, 2, 309, 0), none, none, some (.aload_n 1, 1, 0, 0, 0, 0), some (.aload_n 2, 1, 0, 0, 0, 0), some (.iload_n 3, 1, 0, 0, 0, 0), some (.iconst 0, 1, 0, 0, 0, 0), some (.iconst 0, 1, 0, 0, 0, 0), some (.invokevirtual 99, 3, 65, 6, 768, 0), none, none, some (.iastore, 1, 0, 0, 0, 0), some (.aload_n 0, 1, 0, 0, 0, 0), some (.dup, 1, 0, 0, 0, 0), some (.getfield 28, 3, 4, 3, 312, 0), none, none, some (.iconst 1, 1, 0, 0, 0, 0), some (.iadd, 1, 0, 0, 0, 0), some (.putfield 28, 3, 4, 3, 312, 0), none, none, some (.return_, 1, 0, 0, 0, 0)]
def am_q37 : List (Option am_I) := [some (.aload_n 0, 1, 0, 0, 0, 0), some (.getfield 17, 3, 4, 1, 308, 0), none, none, some (.aload_n 0, 1, 0, 0, 0, 0), some (.getfield 31, 3, 4, 4, 314, 0), none, none, some (.iload_n 1, 1, 0, 0, 0, 0), some (.iaload, 1, 0, 0, 0, 0), some (.aaload, 1, 0, 0, 0, 0), some (.astore_n 2, 1, 0, 0, 0, 0), some (.aload_n 0, 1, 0, 0, 0, 0), some (.getfield 35, 3, 4, 5, 316, 0), none, none, some (.iload_n 1, 1, 0, 0, 0, 0), some (.laload, 1, 0, 0, 0, 0), some (.aload_n 2, 1, 0, 0, 0, 0), some (.getfield 102, 3, 1, 2, 274, 0), none, none, some (.lsub, 1, 0, 0, 0, 0), some (.lstore_n 3, 1, 0, 0, 0, 0), some (.aload_n 2, 1, 0, 0, 0, 0), some (.getfield 106, 3, 1, 3, 276, 0), none, none, some (.lstore 5, 2, 0, 0, 0, 0), none, some (.lload_n 3, 1, 0, 0, 0, 0), some (.lload 5, 2, 0, 0, 0, 0), none, some (.invokestatic 109, 3, 162, 2, 817, 0), none, none, some (.ldc2_w 115, 3, 0, 0, 820, 1000000000), none, none, some (.lmul, 1, 0, 0, 0, 0), some (.lload_n 3, 1, 0, 0, 0, 0), some (.lload 5, 2, 0, 0, 0, 0), none, some (.invokestatic 117, 3, 163, 2, 821, 0), none, none, some (.ldc2_w 115, 3, 0, 0, 820, 1000000000), none, none, some (.lmul, 1, 0, 0, 0, 0), some (.lload 5, 2, 0, 0, 0, 0), none, some (.ldiv, 1, 0, 0, 0, 0), some (.ladd, 1, 0, 0, 0, 0), some (.lreturn, 1, 0, 0, 0, 0)]
def am_q38 : List (Option am_I) := [some (.aload_n 0, 1, 0, 0, 0, 0), some (.getfield 17, 3, 4, 1, 308, 0), none, none, some (.aload_n 0, 1, 0, 0, 0, 0), some (.getfield 31, 3, 4, 4, 314, 0), none, none, some (.iload_n 1, 1, 0, 0, 0, 0), some (.iaload, 1, 0, 0, 0, 0), some (.aaload, 1, 0, 0, 0, 0), some (.astore_n 3, 1, 0, 0, 0, 0), some (.aload_n 0, 1, 0, 0, 0, 0), some (.getfield 39, 3, 4, 6, 318, 0), none, none, some (.iload_n 1, 1, 0, 0, 0, 0), some (.iaload, 1, 0, 0, 0, 0), some (.istore 4, 2, 0, 0, 0, 0), none, some (.iconst 0, 1, 0, 0, 0, 0), some (.istore 5, 2, 0, 0, 0, 0), none, some (.iload 5, 2, 0, 0, 0, 0), none, some (.iconst 4, 1, 0, 0, 0, 0), some (.if_icmp .ge 55, 3, 81, 0, 0, 0), none, none, some (.iload 4, 2, 0, 0, 0, 0), none, some (.iconst (-1), 1, 0, 0, 0, 0), some (.if_icmp .eq 49, 3, 81, 0, 0, 0), none, none, some (.iload_n 2, 1, 0, 0, 0, 0), some (.bipush 8, 2, 0, 0, 0, 0), none, some (.iload 5, 2, 0, 0, 0, 0), none, some (.imul, 1, 0, 0, 0, 0), some (.iushr, 1, 0, 0, 0, 0), some (.sipush 255, 3, 0, 0, 0, 0), none, none, some (.iand, 1, 0, 0, 0, 0), some (.istore 6, 2, 0, 0, 0, 0), none, some (.iload 6, 2, 0, 0, 0, 0), none, some (.ifCond .ne 6, 3, 56, 0, 0, 0), none, none, some (.iload 4, 2, 0, 0, 0, 0), none, some (.ireturn, 1, 0, 0, 0, 0), some (.aload_n 0, 1, 0, 0, 0, 0), some (.aload_n 3, 1, 0, 0, 0, 0), some (.aload_n 0, 1, 0, 0, 0, 0), some (.getfield 24, 3, 4, 2, 309, 0), none, none, some (.aload_n 3, 1, 0, 0, 0, 0), some (.iload 4, 2, 0, 0, 0, 0), none, some (.iload 6, 2, 0, 0, 0, 0), none, some (.invokevirtual 120, 3, 71, 4, 499, 0), none, none, some (.invokevirtual 124, 3, 39, 3, 507, 0), none, none, some (.istore 4, 2, 0, 0, 0, 0), none, some (.iinc 5 1, 3, 0, 0, 0, 0), none, none, some (.goto (-55), 3, 23, 0, 0, 0), none, none, some (.iload 4, 2, 0, 0, 0, 0), none, some (.ireturn, 1, 0, 0, 0, 0)]
def am_q39 : List (Option am_I) := [some (.iload_n 2, 1, 0, 0, 0, 0), some (.istore_n 3, 1, 0, 0, 0, 0), some (.iconst 0, 1, 0, 0, 0, 0), some (.istore 4, 2, 0, 0, 0, 0), none, some (.iload 4, 2, 0, 0, 0, 0), none, some (.bipush 6, 2, 0, 0, 0, 0), none, some (.if_icmp .ge 40, 3, 49, 0, 0, 0), none, none, some (.aload_n 0, 1, 0, 0, 0, 0), some (.iload_n 3, 1, 0, 0, 0, 0), some (.invokevirtual 128, 3, 40, 2, 511, 0), none, none, some (.ifCond .eq 32, 3, 49, 0, 0, 0), none, none, some (.aload_n 1, 1, 0, 0, 0, 0), some (.aload_n 0, 1, 0, 0, 0, 0), some (.getfield 24, 3, 4, 2, 309, 0), none, none, some (.getfield 131, 3, 8, 3, 204, 0), none, none, some (.iload_n 3, 1, 0, 0, 0, 0), some (.iaload, 1, 0, 0, 0, 0), some (.aload_n 0, 1, 0, 0, 0, 0), some (.getfield 24, 3, 4, 2, 309, 0), none, none, some (.getfield 134, 3, 8, 2, 201, 0), none, none, some (.iload_n 3, 1, 0, 0, 0, 0), some (.laload, 1, 0, 0, 0, 0), some (.invokevirtual 137, 3, 16, 3, 515, 0), none, none, some (.istore_n 3, 1, 0, 0, 0, 0), some (.iinc 4 1, 3, 0, 0, 0, 0), none, none, some (.goto (-41), 3, 5, 0, 0, 0), none, none, some (.aload_n 0, 1, 0, 0, 0, 0), some (.iload_n 3, 1, 0, 0, 0, 0), some (.invokevirtual 128, 3, 40, 2, 511, 0), none, none, some (.ifCond .eq 7, 3, 61, 0, 0, 0), none, none, some (.iconst 0, 1, 0, 0, 0, 0), some (.goto 4, 3, 62, 0, 0, 0), none, none, some (.iload_n 3, 1, 0, 0, 0, 0), some (.ireturn, 1, 0, 0, 0, 0)]
def am_q40 : List (Option am_I) := [some (.iload_n 1, 1, 0, 0, 0, 0), some (.iconst (-1), 1, 0, 0, 0, 0), some (.if_icmp .eq 21, 3, 23, 0, 0, 0), none, none, some (.aload_n 0, 1, 0, 0, 0, 0), some (.getfield 24, 3, 4, 2, 309, 0), none, none, some (.getfield 141, 3, 8, 1, 198, 0), none, none, some (.iload_n 1, 1, 0, 0, 0, 0), some (.iaload, 1, 0, 0, 0, 0), some (.bipush 13, 2, 0, 0, 0, 0), none, some (.if_icmp .ne 7, 3, 23, 0, 0, 0), none, none, some (.iconst 1, 1, 0, 0, 0, 0), some (.goto 4, 3, 24, 0, 0, 0), none, none, some (.iconst 0, 1, 0, 0, 0, 0), some (.ireturn, 1, 0, 0, 0, 0)]
def am_q41 : List (Option am_I) := [some (.aload_n 0, 1, 0, 0, 0, 0), some (.invokespecial 3, 3, 99999, 0, 107, 0), none, none, some (.aload_n 0, 1, 0, 0, 0, 0), some (.sipush 960, 3, 0, 0, 0, 0), none, none, some (.newarray .byte, 2, 2, 0, 0, 0), none, some (.putfield 9, 3, 5, 0, 108, 0), none, none, some (.aload_n 0, 1, 0, 0, 0, 0), some (.iconst 0, 1, 0, 0, 0, 0), some (.putfield 15, 3, 5, 1, 109, 0), none, none, some (.aload_n 0, 1, 0, 0, 0, 0), some (.iconst 0, 1, 0, 0, 0, 0), some (.putfield 19, 3, 5, 2, 110, 0), none, none, some (.aload_n 0, 1, 0, 0, 0, 0), some (.iconst 0, 1, 0, 0, 0, 0), some (.putfield 22, 3, 5, 3, 112, 0), none, none, some (.aload_n 0, 1, 0, 0, 0, 0), some (.iconst 0, 1, 0, 0, 0, 0), some (.putfield 25, 3, 5, 4, 117, 0), none, none, some (.aload_n 0, 1, 0, 0, 0, 0), some (.iconst 0, 1, 0, 0, 0, 0), some (.putfield 28, 3, 5, 5, 120, 0), none, none, some (.aload_n 0, 1, 0, 0, 0, 0), some (.iconst 0, 1, 0, 0, 0, 0), some (.putfield 31, 3, 5, 6, 123, 0), none, none, some (.aload_n 0, 1, 0, 0, 0, 0), some (.iconst (-1), 1, 0, 0, 0, 0), some (.putfield 34, 3, 5, 7, 125, 0), none, none, some (.return_, 1, 0, 0, 0, 0)]
def am_q42 : List (Option am_I) := [some (.iload_n 2, 1, 0, 0, 0, 0), some (.iconst 1, 1, 0, 0, 0, 0), some (.if_icmp .lt 20, 3, 22, 0, 0, 0), none, none, some (.iload_n 2, 1, 0, 0, 0, 0), some (.iconst 4, 1, 0, 0, 0, 0), some (.if_icmp .gt 15, 3, 22, 0, 0, 0), none, none, some (.iload_n 2, 1, 0, 0, 0, 0), some (.sipush 960, 3, 0, 0, 0, 0), none, none, some (.aload_n 0, 1, 0, 0, 0, 0), some (.getfield 15, 3, 5, 1, 109, 0), none, none, some (.isub, 1, 0, 0, 0, 0), some (.if_icmp .le 5, 3, 24, 0, 0, 0), none, none, some (.iconst 0, 1, 0, 0, 0, 0), some (.ireturn, 1, 0, 0, 0, 0), some (.iload_n 2, 1, 0, 0, 0, 0), some (.iconst 1, 1, 0, 0, 0, 0), some (.isub, 1, 0, 0, 0, 0), some (.istore_n 3, 1, 0, 0, 0, 0), some (.iload_n 3, 1, 0, 0, 0, 0), some (.ifCond .lt 35, 3, 64, 0, 0, 0), none, none, some (.aload_n 0, 1, 0, 0, 0, 0), some (.getfield 9, 3, 5, 0, 108, 0), none, none, some (.aload_n 0, 1, 0, 0, 0, 0), some (.getfield 15, 3, 5, 1, 109, 0), none, none, some (.iload_n 1, 1, 0, 0, 0, 0), some (.bipush 8, 2, 0, 0, 0, 0), none, some (.iload_n 3, 1, 0, 0, 0, 0), some (.imul, 1, 0, 0, 0, 0), some (.iushr, 1, 0, 0, 0, 0), some (.i2b, 1, 0, 0, 0, 0), some (.bastore, 1, 0, 0, 0, 0), some (.aload_n 0, 1, 0, 0, 0, 0), some (.dup, 1, 0, 0, 0, 0), some (.getfield 15, 3, 5, 1, 109, 0), none, none, some (.iconst 1, 1, 0, 0, 0, 0), some (.iadd, 1, 0, 0, 0, 0), some (.putfield 15, 3, 5, 1, 109, 0), none, none, some (.iinc 3 (-1), 3, 0, 0, 0, 0), none, none, some (.goto (-33), 3, 28, 0, 0, 0), none, none, some (.iconst 1, 1, 0, 0, 0, 0), some (.ireturn, 1, 0, 0, 0, 0)]
def am_q43 : List (Option am_I) := [some (.aload_n 0, 1, 0, 0, 0, 0), some (.aload_n 0, 1, 0, 0, 0, 0), some (.getfield 15, 3, 5, 1, 109, 0), none, none, some (.putfield 19, 3, 5, 2, 110, 0), none, none, some (.aload_n 0, 1, 0, 0, 0, 0), some (.iconst 0, 1, 0, 0, 0, 0), some (.putfield 15, 3, 5, 1, 109, 0), none, none, some (.aload_n 0, 1, 0, 0, 0, 0), some (.iconst 0, 1, 0, 0, 0, 0), some (.putfield 31, 3, 5, 6, 123, 0), none, none, some (.aload_n 0, 1, 0, 0, 0, 0), some (.iconst (-1), 1, 0, 0, 0, 0), some (.putfield 34, 3, 5, 7, 125, 0), none, none, some (.aload_n 0, 1, 0, 0, 0, 0), some (.getfield 19, 3, 5, 2, 110, 0), none, none, some (.ireturn, 1, 0, 0, 0, 0)]
def am_q44 : List (Option am_I) := [some (.aload_n 0, 1, 0, 0, 0, 0), some (.iload_n 1, 1, 0, 0, 0, 0), some (.putfield 31, 3, 5, 6, 123, 0), none, none, some (.aload_n 0, 1, 0, 0, 0, 0), some (.iload_n 2, 1, 0, 0, 0, 0), some (.putfield 34, 3, 5, 7, 125, 0), none, none, some (.new 37, 3, 100, 39, 565, 0), none, none, none, none, none, none, none]
def am_q45 : List (Option am_I) := [some (.aload_n 0, 1, 0, 0, 0, 0), some (.getfield 9, 3, 5, 0, 108, 0), none, none, some (.iload_n 1, 1, 0, 0, 0, 0), some (.baload, 1, 0, 0, 0, 0), some (.sipush 255, 3, 0, 0, 0, 0), none, none, some (.iand, 1, 0, 0, 0, 0), some (.ireturn, 1, 0, 0, 0, 0)]
def am_q46 : List (Option am_I) := [some (.lconst 0, 1, 0, 0, 0, 0), some (.lstore_n 3, 1, 0, 0, 0, 0), some (.iconst 0, 1, 0, 0, 0, 0), some (.istore 5, 2, 0, 0, 0, 0), none, some (.iload 5, 2, 0, 0, 0, 0), none, some (.iload_n 2, 1, 0, 0, 0, 0), some (.if_icmp .ge 29, 3, 37, 0, 0, 0), none, none, some (.lload_n 3, 1, 0, 0, 0, 0), some (.bipush 8, 2, 0, 0, 0, 0), none, some (.lshl, 1, 0, 0, 0, 0), some (.aload_n 0, 1, 0, 0, 0, 0), some (.getfield 9, 3, 5, 0, 108, 0), none, none, some (.iload_n 1, 1, 0, 0, 0, 0), some (.iload 5, 2, 0, 0, 0, 0), none, some (.iadd, 1, 0, 0, 0, 0), some (.baload, 1, 0, 0, 0, 0), some (.sipush 255, 3, 0, 0, 0, 0), none, none, some (.iand, 1, 0, 0, 0, 0), some (.i2l, 1, 0, 0, 0, 0), some (.lor, 1, 0, 0, 0, 0), some (.lstore_n 3, 1, 0, 0, 0, 0), some (.iinc 5 1, 3, 0, 0, 0, 0), none, none, some (.goto (-29), 3, 5, 0, 0, 0), none, none, some (.lload_n 3, 1, 0, 0, 0, 0), some (.lreturn, 1, 0, 0, 0, 0)]
def am_q47 : List (Option am_I) := [some (.aload_n 0, 1, 0, 0, 0, 0), some (.getfield 22, 3, 5, 3, 112, 0), none, none, some (.istore_n 2, 1, 0, 0, 0, 0), some (.iload_n 1, 1, 0, 0, 0, 0), some (.aload_n 0, 1, 0, 0, 0, 0), some (.getfield 25, 3, 5, 4, 117, 0), none, none, some (.iload_n 2, 1, 0, 0, 0, 0), some (.isub, 1, 0, 0, 0, 0), some (.if_icmp .le 9, 3, 21, 0, 0, 0), none, none, some (.aload_n 0, 1, 0, 0, 0, 0), some (.iconst 2, 1, 0, 0, 0, 0), some (.iload_n 2, 1, 0, 0, 0, 0), some (.invokevirtual 40, 3, 44, 3, 659, 0), none, none, some (.aload_n 0, 1, 0, 0, 0, 0), some (.iload_n 2, 1, 0, 0, 0, 0), some (.iload_n 1, 1, 0, 0, 0, 0), some (.iadd, 1, 0, 0, 0, 0), some (.putfield 22, 3, 5, 3, 112, 0), none, none, some (.aload_n 0, 1, 0, 0, 0, 0), some (.iload_n 2, 1, 0, 0, 0, 0), some (.iload_n 1, 1, 0, 0, 0, 0), some (.invokevirtual 44, 3, 46, 3, 678, 0), none, none, some (.lreturn, 1, 0, 0, 0, 0)]
def am_q48 : List (Option am_I) := [some (.aload_n 0, 1, 0, 0, 0, 0), some (.iconst 1, 1, 0, 0, 0, 0), some (.invokevirtual 48, 3, 47, 2, 674, 0), none, none, some (.l2i, 1, 0, 0, 0, 0), some (.ireturn, 1, 0, 0, 0, 0)]
def am_q49 : List (Option am_I) := [some (.aload_n 0, 1, 0, 0, 0, 0), some (.getfield 22, 3, 5, 3, 112, 0), none, none, some (.istore_n 1, 1, 0, 0, 0, 0), some (.lconst 0, 1, 0, 0, 0, 0), some (.lstore_n 2, 1, 0, 0, 0, 0), some (.iconst 0, 1, 0, 0, 0, 0), some (.istore 4, 2, 0, 0, 0, 0), none, some (.iload 4, 2, 0, 0, 0, 0), none, some (.bipush 56, 2, 0, 0, 0, 0), none, some (.if_icmp .gt 87, 3, 101, 0, 0, 0), none, none, some (.aload_n 0, 1, 0, 0, 0, 0), some (.getfield 22, 3, 5, 3, 112, 0), none, none, some (.aload_n 0, 1, 0, 0, 0, 0), some (.getfield 25, 3, 5, 4, 117, 0), none, none, some (.if_icmp .lt 9, 3, 34, 0, 0, 0), none, none, some (.aload_n 0, 1, 0, 0, 0, 0), some (.iconst 2, 1, 0, 0, 0, 0), some (.iload_n 1, 1, 0, 0, 0, 0), some (.invokevirtual 40, 3, 44, 3, 659, 0), none, none, some (.aload_n 0, 1, 0, 0, 0, 0), some (.getfield 9, 3, 5, 0, 108, 0), none, none, some (.aload_n 0, 1, 0, 0, 0, 0), some (.getfield 22, 3, 5, 3, 112, 0), none, none, some (.baload, 1, 0, 0, 0, 0), some (.sipush 255, 3, 0, 0, 0, 0), none, none, some (.iand, 1, 0, 0, 0, 0), some (.istore 5, 2, 0, 0, 0, 0), none, some (.aload_n 0, 1, 0, 0, 0, 0), some (.dup, 1, 0, 0, 0, 0), some (.getfield 22, 3, 5, 3, 112, 0), none, none, some (.iconst 1, 1, 0, 0, 0, 0), some (.iadd, 1, 0, 0, 0, 0), some (.putfield 22, 3, 5, 3, 112, 0), none, none, some (.iload 4, 2, 0, 0, 0, 0), none, some (.bipush 56, 2, 0, 0, 0, 0), none, some (.if_icmp .eq 11, 3, 74, 0, 0, 0), none, none, some (.iload 5, 2, 0, 0, 0, 0), none, some (.sipush 128, 3, 0, 0, 0, 0), none, none, some (.if_icmp .ge 12, 3, 83, 0, 0, 0), none, none, some (.lload_n 2, 1, 0, 0, 0, 0), some (.iload 5, 2, 0, 0, 0, 0), none, some (.i2l, 1, 0, 0, 0, 0), some (.iload 4, 2, 0, 0, 0, 0), none, some (.lshl, 1, 0, 0, 0, 0), some (.lor, 1, 0, 0, 0, 0), some (.lreturn, 1, 0, 0, 0, 0), some (.lload_n 2, 1, 0, 0, 0, 0), some (.iload 5, 2, 0, 0, 0, 0), none, some (.bipush 127, 2, 0, 0, 0, 0), none, some (.iand, 1, 0, 0, 0, 0), some (.i2l, 1, 0, 0, 0, 0), some (.iload 4, 2, 0, 0, 0, 0), none, some (.lshl, 1, 0, 0, 0, 0), some (.lor, 1, 0, 0, 0, 0), some (.lstore_n 2, 1, 0, 0, 0, 0), some (.iinc 4 7, 3, 0, 0, 0, 0), none, none, some (.goto (-88), 3, 10, 0, 0, 0), none, none, some (.lload_n 2, 1, 0, 0, 0, 0), some (.lreturn, 1, 0, 0, 0, 0)]
def am_q50 : List (Option am_I) := [some (.aload_n 0, 1, 0, 0, 0, 0), some (.getfield 22, 3, 5, 3, 112, 0), none, none, some (.istore_n 1, 1, 0, 0, 0, 0), some (.aload_n 0, 1, 0, 0, 0, 0), some (.invokevirtual 52, 3, 49, 1, 655, 0), none, none, some (.lstore_n 2, 1, 0, 0, 0, 0), some (.lload_n 2, 1, 0, 0, 0, 0), some (.lconst 0, 1, 0, 0, 0, 0), some (.lcmp, 1, 0, 0, 0, 0), some (.ifCond .lt 11, 3, 24, 0, 0, 0), none, none, some (.lload_n 2, 1, 0, 0, 0, 0), some (.ldc2_w 56, 3, 0, 0, 660, 2147483648), none, none, some (.lcmp, 1, 0, 0, 0, 0), some (.ifCond .lt 9, 3, 30, 0, 0, 0), none, none, some (.aload_n 0, 1, 0, 0, 0, 0), some (.iconst 2, 1, 0, 0, 0, 0), some (.iload_n 1, 1, 0, 0, 0, 0), some (.invokevirtual 40, 3, 44, 3, 659, 0), none, none, some (.lload_n 2, 1, 0, 0, 0, 0), some (.l2i, 1, 0, 0, 0, 0), some (.ireturn, 1, 0, 0, 0, 0)]
def am_q51 : List (Option am_I) := [some (.aload_n 0, 1, 0, 0, 0, 0), some (.iload_n 1, 1, 0, 0, 0, 0), some (.putfield 22, 3, 5, 3, 112, 0), none, none, some (.aload_n 0, 1, 0, 0, 0, 0), some (.iload_n 2, 1, 0, 0, 0, 0), some (.putfield 25, 3, 5, 4, 117, 0), none, none, some (.aload_n 0, 1, 0, 0, 0, 0), some (.invokevirtual 58, 3, 50, 1, 651, 0), none, none, some (.istore_n 3, 1, 0, 0, 0, 0), some (.iload_n 3, 1, 0, 0, 0, 0), some (.iconst 2, 1, 0, 0, 0, 0), some (.if_icmp .lt 10, 3, 27, 0, 0, 0), none, none, some (.iload_n 3, 1, 0, 0, 0, 0), some (.iload_n 2, 1, 0, 0, 0, 0), some (.iload_n 1, 1, 0, 0, 0, 0), some (.isub, 1, 0, 0, 0, 0), some (.if_icmp .le 9, 3, 33, 0, 0, 0), none, none, some (.aload_n 0, 1, 0, 0, 0, 0), some (.iconst 5, 1, 0, 0, 0, 0), some (.iload_n 1, 1, 0, 0, 0, 0), some (.invokevirtual 40, 3, 44, 3, 659, 0), none, none, some (.aload_n 0, 1, 0, 0, 0, 0), some (.aload_n 0, 1, 0, 0, 0, 0), some (.getfield 22, 3, 5, 3, 112, 0), none, none, some (.putfield 28, 3, 5, 5, 120, 0), none, none, some (.aload_n 0, 1, 0, 0, 0, 0), some (.invokevirtual 58, 3, 50, 1, 651, 0), none, none, some (.istore 4, 2, 0, 0, 0, 0), none, some (.aload_n 0, 1, 0, 0, 0, 0), some (.getfield 22, 3, 5, 3, 112, 0), none, none, some (.iload_n 1, 1, 0, 0, 0, 0), some (.iload_n 3, 1, 0, 0, 0, 0), some (.iadd, 1, 0, 0, 0, 0), some (.if_icmp .le 12, 3, 66, 0, 0, 0), none, none, some (.aload_n 0, 1, 0, 0, 0, 0), some (.iconst 2, 1, 0, 0, 0, 0), some (.aload_n 0, 1, 0, 0, 0, 0), some (.getfield 28, 3, 5, 5, 120, 0), none, none, some (.invokevirtual 40, 3, 44, 3, 659, 0), none, none, some (.aload_n 0, 1, 0, 0, 0, 0), some (.iload_n 1, 1, 0, 0, 0, 0), some (.iload_n 3, 1, 0, 0, 0, 0), some (.iadd, 1, 0, 0, 0, 0), some (.putfield 25, 3, 5, 4, 117, 0), none, none, some (.iload 4, 2, 0, 0, 0, 0), none, some (.ireturn, 1, 0, 0, 0, 0)]
def am_q52 : List (Option am_I) := [some (.aload_n 0, 1, 0, 0, 0, 0), some (.getfield 22, 3, 5, 3, 112, 0), none, none, some (.aload_n 0, 1, 0, 0, 0, 0), some (.getfield 25, 3, 5, 4, 117, 0), none, none, some (.if_icmp .ge 12, 3, 20, 0, 0, 0), none, none, some (.aload_n 0, 1, 0, 0, 0, 0), some (.iconst 5, 1, 0, 0, 0, 0), some (.aload_n 0, 1, 0, 0, 0, 0), some (.getfield 22, 3, 5, 3, 112, 0), none, none, some (.invokevirtual 40, 3, 44, 3, 659, 0), none, none, some (.return_, 1, 0, 0, 0, 0)]
def am_q53 : List (Option am_I) := [some (.aload_n 0, 1, 0, 0, 0, 0), some (.getfield 22, 3, 5, 3, 112, 0), none, none, some (.istore_n 2, 1, 0, 0, 0, 0), some (.aload_n 0, 1, 0, 0, 0, 0), some (.getfield 9, 3, 5, 0, 108, 0), none, none, some (.iload_n 2, 1, 0, 0, 0, 0), some (.baload, 1, 0, 0, 0, 0), some (.sipush 255, 3, 0, 0, 0, 0), none, none, some (.iand, 1, 0, 0, 0, 0), some (.istore_n 3, 1, 0, 0, 0, 0), some (.iload_n 3, 1, 0, 0, 0, 0), some (.sipush 128, 3, 0, 0, 0, 0), none, none, some (.if_icmp .ge 7, 3, 27, 0, 0, 0), none, none, some (.iconst 0, 1, 0, 0, 0, 0), some (.goto 37, 3, 61, 0, 0, 0), none, none, some (.iload_n 3, 1, 0, 0, 0, 0), some (.sipush 192, 3, 0, 0, 0, 0), none, none, some (.if_icmp .ge 7, 3, 38, 0, 0, 0), none, none, some (.iconst (-1), 1, 0, 0, 0, 0), some (.goto 26, 3, 61, 0, 0, 0), none, none, some (.iload_n 3, 1, 0, 0, 0, 0), some (.sipush 224, 3, 0, 0, 0, 0), none, none, some (.if_icmp .ge 7, 3, 49, 0, 0, 0), none, none, some (.iconst 1, 1, 0, 0, 0, 0), some (.goto 15, 3, 61, 0, 0, 0), none, none, some (.iload_n 3, 1, 0, 0, 0, 0), some (.sipush 240, 3, 0, 0, 0, 0), none, none, some (.if_icmp .ge 7, 3, 60, 0, 0, 0), none, none, some (.iconst 2, 1, 0, 0, 0, 0), some (.goto 4, 3, 61, 0, 0, 0), none, none, some (.iconst (-1), 1, 0, 0, 0, 0), some (.istore 4, 2, 0, 0, 0, 0), none, some (.iload 4, 2, 0, 0, 0, 0), none, some (.ifCond .lt 11, 3, 76, 0, 0, 0), none, none, some (.iload 4, 2, 0, 0, 0, 0), none, some (.iload_n 1, 1, 0, 0, 0, 0), some (.iload_n 2, 1, 0, 0, 0, 0), some (.isub, 1, 0, 0, 0, 0), some (.if_icmp .lt 10, 3, 83, 0, 0, 0), none, none, some (.aload_n 0, 1, 0, 0, 0, 0), some (.bipush 6, 2, 0, 0, 0, 0), none, some (.iload_n 2, 1, 0, 0, 0, 0), some (.invokevirtual 40, 3, 44, 3, 659, 0), none, none, some (.iload 4, 2, 0, 0, 0, 0), none, some (.ifCond .ne 7, 3, 92, 0, 0, 0), none, none, some (.iload_n 3, 1, 0, 0, 0, 0), some (.goto 20, 3, 109, 0, 0, 0), none, none, some (.iload 4, 2, 0, 0, 0, 0), none, some (.iconst 1, 1, 0, 0, 0, 0), some (.if_icmp .ne 10, 3, 105, 0, 0, 0), none, none, some (.iload_n 3, 1, 0, 0, 0, 0), some (.bipush 31, 2, 0, 0, 0, 0), none, some (.iand, 1, 0, 0, 0, 0), some (.goto 7, 3, 109, 0, 0, 0), none, none, some (.iload_n 3, 1, 0, 0, 0, 0), some (.bipush 15, 2, 0, 0, 0, 0), none, some (.iand, 1, 0, 0, 0, 0), some (.istore 5, 2, 0, 0, 0, 0), none, some (.iconst 1, 1, 0, 0, 0, 0), some (.istore 6, 2, 0, 0, 0, 0), none, some (.iload 6, 2, 0, 0, 0, 0), none, some (.iload 4, 2, 0, 0, 0, 0), none, some (.if_icmp .gt 60, 3, 178, 0, 0, 0), none, none, some (.aload_n 0, 1, 0, 0, 0, 0), some (.getfield 9, 3, 5, 0, 108, 0), none, none, some (.iload_n 2, 1, 0, 0, 0, 0), some (.iload 6, 2, 0, 0, 0, 0), none, some (.iadd, 1, 0, 0, 0, 0), some (.baload, 1, 0, 0, 0, 0), some (.sipush 255, 3, 0, 0, 0, 0), none, none, some (.iand, 1, 0, 0, 0, 0), some (.istore 7, 2, 0, 0, 0, 0), none, some (.iload 7, 2, 0, 0, 0, 0), none, some (.sipush 128, 3, 0, 0, 0, 0), none, none, some (.if_icmp .lt 11, 3, 152, 0, 0, 0), none, none, some (.iload 7, 2, 0, 0, 0, 0), none, some (.sipush 191, 3, 0, 0, 0, 0), none, none, some (.if_icmp .le 10, 3, 159, 0, 0, 0), none, none, some (.aload_n 0, 1, 0, 0, 0, 0), some (.bipush 6, 2, 0, 0, 0, 0), none, some (.iload_n 2, 1, 0, 0, 0, 0), some (.invokevirtual 40, 3, 44, 3, 659, 0), none, none, some (.iload 5, 2, 0, 0, 0, 0), none, some (.bipush 6, 2, 0, 0, 0, 0), none, some (.ishl, 1, 0, 0, 0, 0), some (.iload 7, 2, 0, 0, 0, 0), none, some (.bipush 63, 2, 0, 0, 0, 0), none, some (.iand, 1, 0, 0, 0, 0), some (.ior, 1, 0, 0, 0, 0), some (.istore 5, 2, 0, 0, 0, 0), none, some (.iinc 6 1, 3, 0, 0, 0, 0), none, none, some (.goto (-61), 3, 114, 0, 0, 0), none, none, some (.iload 4, 2, 0, 0, 0, 0), none, some (.iconst 1, 1, 0, 0, 0, 0), some (.if_icmp .ne 11, 3, 192, 0, 0, 0), none, none, some (.iload 5, 2, 0, 0, 0, 0), none, some (.sipush 128, 3, 0, 0, 0, 0), none, none, some (.if_icmp .lt 17, 3, 206, 0, 0, 0), none, none, some (.iload 4, 2, 0, 0, 0, 0), none, some (.iconst 2, 1, 0, 0, 0, 0), some (.if_icmp .ne 15, 3, 210, 0, 0, 0), none, none, some (.iload 5, 2, 0, 0, 0, 0), none, some (.sipush 2048, 3, 0, 0, 0, 0), none, none, some (.if_icmp .ge 7, 3, 210, 0, 0, 0), none, none, some (.iconst 1, 1, 0, 0, 0, 0), some (.goto 4, 3, 211, 0, 0, 0), none, none, some (.iconst 0, 1, 0, 0, 0, 0), some (.istore 6, 2, 0, 0, 0, 0), none, some (.iload 6, 2, 0, 0, 0, 0), none, some (.ifCond .ne 17, 3, 232, 0, 0, 0), none, none, some (.iload 5, 2, 0, 0, 0, 0), none, some (.ldc 62, 2, 0, 0, 745, 55296), none, some (.if_icmp .lt 17, 3, 239, 0, 0, 0), none, none, some (.iload 5, 2, 0, 0, 0, 0), none, some (.ldc 63, 2, 0, 0, 746, 57343), none, some (.if_icmp .gt 10, 3, 239, 0, 0, 0), none, none, some (.aload_n 0, 1, 0, 0, 0, 0), some (.bipush 6, 2, 0, 0, 0, 0), none, some (.iload_n 2, 1, 0, 0, 0, 0), some (.invokevirtual 40, 3, 44, 3, 659, 0), none, none, some (.aload_n 0, 1, 0, 0, 0, 0), some (.iload_n 2, 1, 0, 0, 0, 0), some (.iload 4, 2, 0, 0, 0, 0), none, some (.iadd, 1, 0, 0, 0, 0), some (.iconst 1, 1, 0, 0, 0, 0), some (.iadd, 1, 0, 0, 0, 0), some (.putfield 22, 3, 5, 3, 112, 0), none, none, some (.iload 5, 2, 0, 0, 0, 0), none, some (.i2c, 1, 0, 0, 0, 0), some (.ireturn, 1, 0, 0, 0, 0)]
def am_q54 : List (Option am_I) := [some (.aload_n 0, 1, 0, 0, 0, 0), some (.invokespecial 3, 3, 99999, 0, 384, 0), none, none, some (.aload_n 0, 1, 0, 0, 0, 0), some (.iconst 0, 1, 0, 0, 0, 0), some (.putfield 9, 3, 6, 0, 385, 0), none, none, some (.aload_n 0, 1, 0, 0, 0, 0), some (.bipush 60, 2, 0, 0, 0, 0), none, some (.newarray .long, 2, 1, 0, 0, 0), none, some (.putfield 15, 3, 6, 1, 387, 0), none, none, some (.return_, 1, 0, 0, 0, 0)]
def am_q55 : List (Option am_I) := [some (.aload_n 0, 1, 0, 0, 0, 0), some (.getfield 9, 3, 6, 0, 385, 0), none, none, some (.bipush 60, 2, 0, 0, 0, 0), none, some (.if_icmp .ne 4, 3, 10, 0, 0, 0), none, none, some (.return_, 1, 0, 0, 0, 0), some (.aload_n 0, 1, 0, 0, 0, 0), some (.getfield 9, 3, 6, 0, 385, 0), none, none, some (.istore_n 3, 1, 0, 0, 0, 0), some (.iload_n 3, 1, 0, 0, 0, 0), some (.ifCond .le 36, 3, 52, 0, 0, 0), none, none, some (.aload_n 0, 1, 0, 0, 0, 0), some (.getfield 15, 3, 6, 1, 387, 0), none, none, some (.iload_n 3, 1, 0, 0, 0, 0), some (.iconst 1, 1, 0, 0, 0, 0), some (.isub, 1, 0, 0, 0, 0), some (.laload, 1, 0, 0, 0, 0), some (.lload_n 1, 1, 0, 0, 0, 0), some (.lcmp, 1, 0, 0, 0, 0), some (.ifCond .le 23, 3, 52, 0, 0, 0), none, none, some (.aload_n 0, 1, 0, 0, 0, 0), some (.getfield 15, 3, 6, 1, 387, 0), none, none, some (.iload_n 3, 1, 0, 0, 0, 0), some (.aload_n 0, 1, 0, 0, 0, 0), some (.getfield 15, 3, 6, 1, 387, 0), none, none, some (.iload_n 3, 1, 0, 0, 0, 0), some (.iconst 1, 1, 0, 0, 0, 0), some (.isub, 1, 0, 0, 0, 0), some (.laload, 1, 0, 0, 0, 0), some (.lastore, 1, 0, 0, 0, 0), some (.iinc 3 (-1), 3, 0, 0, 0, 0), none, none, some (.goto (-34), 3, 15, 0, 0, 0), none, none, some (.aload_n 0, 1, 0, 0, 0, 0), some (.getfield 15, 3, 6, 1, 387, 0), none, none, some (.iload_n 3, 1, 0, 0, 0, 0), some (.lload_n 1, 1, 0, 0, 0, 0), some (.lastore, 1, 0, 0, 0, 0), some (.aload_n 0, 1, 0, 0, 0, 0), some (.dup, 1, 0, 0, 0, 0), some (.getfield 9, 3, 6, 0, 385, 0), none, none, some (.iconst 1, 1, 0, 0, 0, 0), some (.iadd, 1, 0, 0, 0, 0), some (.putfield 9, 3, 6, 0, 385, 0), none, none, some (.return_, 1, 0, 0, 0, 0)]
def am_q56 : List (Option am_I) := [some (.lconst 0, 1, 0, 0, 0, 0), some (.lstore_n 1, 1, 0, 0, 0, 0), some (.iconst 0, 1, 0, 0, 0, 0), some (.istore_n 3, 1, 0, 0, 0, 0), some (.iload_n 3, 1, 0, 0, 0, 0), some (.aload_n 0, 1, 0, 0, 0, 0), some (.getfield 9, 3, 6, 0, 385, 0), none, none, some (.if_icmp .ge 18, 3, 27, 0, 0, 0), none, none, some (.lload_n 1, 1, 0, 0, 0, 0), some (.aload_n 0, 1, 0, 0, 0, 0), some (.getfield 15, 3, 6, 1, 387, 0), none, none, some (.iload_n 3, 1, 0, 0, 0, 0), some (.laload, 1, 0, 0, 0, 0), some (.ladd, 1, 0, 0, 0, 0), some (.lstore_n 1, 1, 0, 0, 0, 0), some (.iinc 3 1, 3, 0, 0, 0, 0), none, none, some (.goto (-20), 3, 4, 0, 0, 0), none, none, some (.lload_n 1, 1, 0, 0, 0, 0), some (.lreturn, 1, 0, 0, 0, 0)]
def am_q57 : List (Option am_I) := [some (.aload_n 0, 1, 0, 0, 0, 0), some (.getfield 15, 3, 6, 1, 387, 0), none, none, some (.iload_n 1, 1, 0, 0, 0, 0), some (.iconst 0, 1, 0, 0, 0, 0), some (.invokestatic 19, 3, 164, 2, 943, 0), none, none, some (.laload, 1, 0, 0, 0, 0), some (.lreturn, 1, 0, 0, 0, 0)]
def am_q58 : List (Option am_I) := [some (.aload_n 0, 1, 0, 0, 0, 0), some (.getfield 9, 3, 6, 0, 385, 0), none, none, some (.ifCond .ne 5, 3, 9, 0, 0, 0), none, none, some (.lconst 0, 1, 0, 0, 0, 0), some (.lreturn, 1, 0, 0, 0, 0), some (.aload_n 0, 1, 0, 0, 0, 0), some (.getfield 9, 3, 6, 0, 385, 0), none, none, some (.i2l, 1, 0, 0, 0, 0), some (.lstore_n 1, 1, 0, 0, 0, 0), some (.lconst 0, 1, 0, 0, 0, 0), some (.lstore_n 3, 1, 0, 0, 0, 0), some (.lconst 0, 1, 0, 0, 0, 0), some (.lstore 5, 2, 0, 0, 0, 0), none, some (.iconst 0, 1, 0, 0, 0, 0), some (.istore 7, 2, 0, 0, 0, 0), none, some (.iload 7, 2, 0, 0, 0, 0), none, some (.aload_n 0, 1, 0, 0, 0, 0), some (.getfield 9, 3, 6, 0, 385, 0), none, none, some (.if_icmp .ge 39, 3, 68, 0, 0, 0), none, none, some (.lload_n 3, 1, 0, 0, 0, 0), some (.aload_n 0, 1, 0, 0, 0, 0), some (.getfield 15, 3, 6, 1, 387, 0), none, none, some (.iload 7, 2, 0, 0, 0, 0), none, some (.laload, 1, 0, 0, 0, 0), some (.lload_n 1, 1, 0, 0, 0, 0), some (.invokestatic 25, 3, 162, 2, 950, 0), none, none, some (.ladd, 1, 0, 0, 0, 0), some (.lstore_n 3, 1, 0, 0, 0, 0), some (.lload 5, 2, 0, 0, 0, 0), none, some (.aload_n 0, 1, 0, 0, 0, 0), some (.getfield 15, 3, 6, 1, 387, 0), none, none, some (.iload 7, 2, 0, 0, 0, 0), none, some (.laload, 1, 0, 0, 0, 0), some (.lload_n 1, 1, 0, 0, 0, 0), some (.invokestatic 29, 3, 163, 2, 951, 0), none, none, some (.ladd, 1, 0, 0, 0, 0), some (.lstore 5, 2, 0, 0, 0, 0), none, some (.iinc 7 1, 3, 0, 0, 0, 0), none, none, some (.goto (-42), 3, 23, 0, 0, 0), none, none, some (.lload_n 3, 1, 0, 0, 0, 0), some (.lload 5, 2, 0, 0, 0, 0), none, some (.lload_n 1, 1, 0, 0, 0, 0), some (.ldiv, 1, 0, 0, 0, 0), some (.ladd, 1, 0, 0, 0, 0), some (.lstore_n 3, 1, 0, 0, 0, 0), some (.lload 5, 2, 0, 0, 0, 0), none, some (.lload_n 1, 1, 0, 0, 0, 0), some (.lrem, 1, 0, 0, 0, 0), some (.lstore 5, 2, 0, 0, 0, 0), none, some (.lload_n 3, 1, 0, 0, 0, 0), some (.lconst 0, 1, 0, 0, 0, 0), some (.lcmp, 1, 0, 0, 0, 0), some (.ifCond .ge 22, 3, 106, 0, 0, 0), none, none, some (.ldc2_w 32, 3, 0, 0, 952, 2), none, none, some (.lload 5, 2, 0, 0, 0, 0), none, some (.lmul, 1, 0, 0, 0, 0), some (.lload_n 1, 1, 0, 0, 0, 0), some (.lcmp, 1, 0, 0, 0, 0), some (.ifCond .le 7, 3, 102, 0, 0, 0), none, none, some (.iconst 1, 1, 0, 0, 0, 0), some (.goto 23, 3, 122, 0, 0, 0), none, none, some (.iconst 0, 1, 0, 0, 0, 0), some (.goto 19, 3, 122, 0, 0, 0), none, none, some (.ldc2_w 32, 3, 0, 0, 952, 2), none, none, some (.lload 5, 2, 0, 0, 0, 0), none, some (.lmul, 1, 0, 0, 0, 0), some (.lload_n 1, 1, 0, 0, 0, 0), some (.lcmp, 1, 0, 0, 0, 0), some (.ifCond .lt 7, 3, 121, 0, 0, 0), none, none, some (.iconst 1, 1, 0, 0, 0, 0), some (.goto 4, 3, 122, 0, 0, 0), none, none, some (.iconst 0, 1, 0, 0, 0, 0), some (.istore 7, 2, 0, 0, 0, 0), none, some (.iload 7, 2, 0, 0, 0, 0), none, some (.ifCond .eq 9, 3, 135, 0, 0, 0), none, none, some (.lload_n 3, 1, 0, 0, 0, 0), some (.lconst 1, 1, 0, 0, 0, 0), some (.ladd, 1, 0, 0, 0, 0), some (.goto 4, 3, 136, 0, 0, 0), none, none, some (.lload_n 3, 1, 0, 0, 0, 0), some (.lreturn, 1, 0, 0, 0, 0)]
def am_q59 : List (Option am_I) := [some (.aload_n 0, 1, 0, 0, 0, 0), some (.invokespecial 3, 3, 99999, 0, 237, 0), none, none, some (.aload_n 0, 1, 0, 0, 0, 0), some (.iconst 0, 1, 0, 0, 0, 0), some (.putfield 9, 3, 7, 0, 238, 0), none, none, some (.aload_n 0, 1, 0, 0, 0, 0), some (.iconst 0, 1, 0, 0, 0, 0), some (.putfield 15, 3, 7, 1, 240, 0), none, none, some (.aload_n 0, 1, 0, 0, 0, 0), some (.iconst 0, 1, 0, 0, 0, 0), some (.putfield 18, 3, 7, 2, 242, 0), none, none, some (.aload_n 0, 1, 0, 0, 0, 0), some (.iconst 0, 1, 0, 0, 0, 0), some (.putfield 22, 3, 7, 3, 244, 0), none, none, some (.aload_n 0, 1, 0, 0, 0, 0), some (.bipush 8, 2, 0, 0, 0, 0), none, some (.newarray .int, 2, 0, 0, 0, 0), none, some (.putfield 25, 3, 7, 4, 247, 0), none, none, some (.aload_n 0, 1, 0, 0, 0, 0), some (.bipush 8, 2, 0, 0, 0, 0), none, some (.newarray .int, 2, 0, 0, 0, 0), none, some (.putfield 29, 3, 7, 5, 248, 0), none, none, some (.aload_n 0, 1, 0, 0, 0, 0), some (.bipush 8, 2, 0, 0, 0, 0), none, some (.newarray .int, 2, 0, 0, 0, 0), none, some (.putfield 32, 3, 7, 6, 251, 0), none, none, some (.return_, 1, 0, 0, 0, 0)]
def am_q60 : List (Option am_I) := [some (.aload_n 0, 1, 0, 0, 0, 0), some (.iload_n 2, 1, 0, 0, 0, 0), some (.putfield 9, 3, 7, 0, 238, 0), none, none, some (.aload_n 0, 1, 0, 0, 0, 0), some (.iconst 0, 1, 0, 0, 0, 0), some (.putfield 22, 3, 7, 3, 244, 0), none, none, some (.aload_n 0, 1, 0, 0, 0, 0), some (.aload_n 1, 1, 0, 0, 0, 0), some (.invokevirtual 35, 3, 48, 1, 670, 0), none, none, some (.putfield 15, 3, 7, 1, 240, 0), none, none, some (.aload_n 0, 1, 0, 0, 0, 0), some (.getfield 15, 3, 7, 1, 240, 0), none, none, some (.bipush 65, 2, 0, 0, 0, 0), none, some (.if_icmp .lt 12, 3, 36, 0, 0, 0), none, none, some (.aload_n 0, 1, 0, 0, 0, 0), some (.getfield 15, 3, 7, 1, 240, 0), none, none, some (.bipush 90, 2, 0, 0, 0, 0), none, some (.if_icmp .le 14, 3, 47, 0, 0, 0), none, none, some (.aload_n 1, 1, 0, 0, 0, 0), some (.iconst 4, 1, 0, 0, 0, 0), some (.aload_n 1, 1, 0, 0, 0, 0), some (.getfield 41, 3, 5, 3, 113, 0), none, none, some (.iconst 1, 1, 0, 0, 0, 0), some (.isub, 1, 0, 0, 0, 0), some (.invokevirtual 44, 3, 44, 3, 679, 0), none, none, some (.aload_n 1, 1, 0, 0, 0, 0), some (.invokevirtual 35, 3, 48, 1, 670, 0), none, none, some (.istore_n 3, 1, 0, 0, 0, 0), some (.iload_n 3, 1, 0, 0, 0, 0), some (.iconst 1, 1, 0, 0, 0, 0), some (.if_icmp .le 14, 3, 68, 0, 0, 0), none, none, some (.aload_n 1, 1, 0, 0, 0, 0), some (.iconst 4, 1, 0, 0, 0, 0), some (.aload_n 1, 1, 0, 0, 0, 0), some (.getfield 41, 3, 5, 3, 113, 0), none, none, some (.iconst 1, 1, 0, 0, 0, 0), some (.isub, 1, 0, 0, 0, 0), some (.invokevirtual 44, 3, 44, 3, 679, 0), none, none, some (.aload_n 0, 1, 0, 0, 0, 0), some (.iload_n 3, 1, 0, 0, 0, 0), some (.iconst 1, 1, 0, 0, 0, 0), some (.if_icmp .ne 7, 3, 78, 0, 0, 0), none, none, some (.iconst 1, 1, 0, 0, 0, 0), some (.goto 4, 3, 79, 0, 0, 0), none, none, some (.iconst 0, 1, 0, 0, 0, 0), some (.putfield 18, 3, 7, 2, 242, 0), none, none, some (.aload_n 1, 1, 0, 0, 0, 0), some (.getfield 41, 3, 5, 3, 113, 0), none, none, some (.istore 4, 2, 0, 0, 0, 0), none, some (.aload_n 1, 1, 0, 0, 0, 0), some (.invokevirtual 48, 3, 50, 1, 680, 0), none, none, some (.istore 5, 2, 0, 0, 0, 0), none, some (.iload 5, 2, 0, 0, 0, 0), none, some (.bipush 8, 2, 0, 0, 0, 0), none, some (.if_icmp .le 10, 3, 108, 0, 0, 0), none, none, some (.aload_n 1, 1, 0, 0, 0, 0), some (.iconst 4, 1, 0, 0, 0, 0), some (.iload 4, 2, 0, 0, 0, 0), none, some (.invokevirtual 44, 3, 44, 3, 679, 0), none, none, some (.iconst 0, 1, 0, 0, 0, 0), some (.istore 6, 2, 0, 0, 0, 0), none, some (.iload 6, 2, 0, 0, 0, 0), none, some (.iload 5, 2, 0, 0, 0, 0), none, some (.if_icmp .ge 14, 3, 129, 0, 0, 0), none, none, some (.aload_n 0, 1, 0, 0, 0, 0), some (.aload_n 1, 1, 0, 0, 0, 0), some (.invokevirtual 51, 3, 61, 2, 681, 0), none, none, some (.iinc 6 1, 3, 0, 0, 0, 0), none, none, some (.goto (-15), 3, 111, 0, 0, 0), none, none, some (.return_, 1, 0, 0, 0, 0)]
def am_q61 : List (Option am_I) := [some (.aload_n 1, 1, 0, 0, 0, 0), some (.invokevirtual 35, 3, 48, 1, 670, 0), none, none, some (.istore_n 2, 1, 0, 0, 0, 0), some (.iload_n 2, 1, 0, 0, 0, 0), some (.bipush 97, 2, 0, 0, 0, 0), none, some (.if_icmp .lt 17, 3, 25, 0, 0, 0), none, none, some (.iload_n 2, 1, 0, 0, 0, 0), some (.bipush 122, 2, 0, 0, 0, 0), none, some (.if_icmp .gt 11, 3, 25, 0, 0, 0), none, none, some (.aload_n 0, 1, 0, 0, 0, 0), some (.iload_n 2, 1, 0, 0, 0, 0), some (.invokevirtual 55, 3, 62, 2, 685, 0), none, none, some (.ifCond .lt 14, 3, 36, 0, 0, 0), none, none, some (.aload_n 1, 1, 0, 0, 0, 0), some (.iconst 4, 1, 0, 0, 0, 0), some (.aload_n 1, 1, 0, 0, 0, 0), some (.getfield 41, 3, 5, 3, 113, 0), none, none, some (.iconst 1, 1, 0, 0, 0, 0), some (.isub, 1, 0, 0, 0, 0), some (.invokevirtual 44, 3, 44, 3, 679, 0), none, none, some (.aload_n 1, 1, 0, 0, 0, 0), some (.invokevirtual 48, 3, 50, 1, 680, 0), none, none, some (.istore_n 3, 1, 0, 0, 0, 0), some (.aload_n 1, 1, 0, 0, 0, 0), some (.invokevirtual 35, 3, 48, 1, 670, 0), none, none, some (.istore 4, 2, 0, 0, 0, 0), none, some (.iload 4, 2, 0, 0, 0, 0), none, some (.bipush (-4), 2, 0, 0, 0, 0), none, some (.iand, 1, 0, 0, 0, 0), some (.ifCond .eq 14, 3, 66, 0, 0, 0), none, none, some (.aload_n 1, 1, 0, 0, 0, 0), some (.iconst 4, 1, 0, 0, 0, 0), some (.aload_n 1, 1, 0, 0, 0, 0), some (.getfield 41, 3, 5, 3, 113, 0), none, none, some (.iconst 1, 1, 0, 0, 0, 0), some (.isub, 1, 0, 0, 0, 0), some (.invokevirtual 44, 3, 44, 3, 679, 0), none, none, some (.aload_n 0, 1, 0, 0, 0, 0), some (.getfield 25, 3, 7, 4, 247, 0), none, none, some (.aload_n 0, 1, 0, 0, 0, 0), some (.getfield 22, 3, 7, 3, 244, 0), none, none, some (.iload_n 2, 1, 0, 0, 0, 0), some (.iastore, 1, 0, 0, 0, 0), some (.aload_n 0, 1, 0, 0, 0, 0), some (.getfield 29, 3, 7, 5, 248, 0), none, none, some (.aload_n 0, 1, 0, 0, 0, 0), some (.getfield 22, 3, 7, 3, 244, 0), none, none, some (.iload_n 3, 1, 0, 0, 0, 0), some (.iastore, 1, 0, 0, 0, 0), some (.aload_n 0, 1, 0, 0, 0, 0), some (.getfield 32, 3, 7, 6, 251, 0), none, none, some (.aload_n 0, 1, 0, 0, 0, 0), some (.getfield 22, 3, 7, 3, 244, 0), none, none, some (.iload 4, 2, 0, 0, 0, 0), none, some (.iastore, 1, 0, 0, 0, 0), some (.aload_n 0, 1, 0, 0, 0, 0), some (.dup, 1, 0, 0, 0, 0), some (.getfield 22, 3, 7, 3, 244, 0), none, none, some (.iconst 1, 1, 0, 0, 0, 0), some (.iadd, 1, 0, 0, 0, 0), some (.putfield 22, 3, 7, 3, 244, 0), none, none, some (.return_, 1, 0, 0, 0, 0)]
def am_q62 : List (Option am_I) := [some (.iconst 0, 1, 0, 0, 0, 0), some (.istore_n 2, 1, 0, 0, 0, 0), some (.iload_n 2, 1, 0, 0, 0, 0), some (.aload_n 0, 1, 0, 0, 0, 0), some (.getfield 22, 3, 7, 3, 244, 0), none, none, some (.if_icmp .ge 21, 3, 28, 0, 0, 0), none, none, some (.aload_n 0, 1, 0, 0, 0, 0), some (.getfield 25, 3, 7, 4, 247, 0), none, none, some (.iload_n 2, 1, 0, 0, 0, 0), some (.iaload, 1, 0, 0, 0, 0), some (.iload_n 1, 1, 0, 0, 0, 0), some (.if_icmp .ne 5, 3, 22, 0, 0, 0), none, none, some (.iload_n 2, 1, 0, 0, 0, 0), some (.ireturn, 1, 0, 0, 0, 0), some (.iinc 2 1, 3, 0, 0, 0, 0), none, none, some (.goto (-23), 3, 2, 0, 0, 0), none, none, some (.iconst (-1), 1, 0, 0, 0, 0), some (.ireturn, 1, 0, 0, 0, 0)]
def am_q63 : List (Option am_I) := [some (.aload_n 0, 1, 0, 0, 0, 0), some (.invokespecial 3, 3, 99999, 0, 194, 0), none, none, some (.aload_n 0, 1, 0, 0, 0, 0), some (.iconst 1, 1, 0, 0, 0, 0), some (.putfield 9, 3, 8, 0, 195, 0), none, none, some (.aload_n 0, 1, 0, 0, 0, 0), some (.sipush 1201, 3, 0, 0, 0, 0), none, none, some (.newarray .int, 2, 0, 0, 0, 0), none, some (.putfield 15, 3, 8, 1, 196, 0), none, none, some (.aload_n 0, 1, 0, 0, 0, 0), some (.sipush 1201, 3, 0, 0, 0, 0), none, none, some (.newarray .long, 2, 1, 0, 0, 0), none, some (.putfield 19, 3, 8, 2, 199, 0), none, none, some (.aload_n 0, 1, 0, 0, 0, 0), some (.sipush 1201, 3, 0, 0, 0, 0), none, none, some (.newarray .int, 2, 0, 0, 0, 0), none, some (.putfield 23, 3, 8, 3, 203, 0), none, none, some (.aload_n 0, 1, 0, 0, 0, 0), some (.sipush 1201, 3, 0, 0, 0, 0), none, none, some (.newarray .int, 2, 0, 0, 0, 0), none, some (.putfield 26, 3, 8, 4, 206, 0), none, none, some (.aload_n 0, 1, 0, 0, 0, 0), some (.iconst 0, 1, 0, 0, 0, 0), some (.putfield 29, 3, 8, 5, 207, 0), none, none, some (.aload_n 0, 1, 0, 0, 0, 0), some (.sipush 960, 3, 0, 0, 0, 0), none, none, some (.newarray .char, 2, 3, 0, 0, 0), none, some (.putfield 32, 3, 8, 6, 208, 0), none, none, some (.aload_n 0, 1, 0, 0, 0, 0), some (.getfield 15, 3, 8, 1, 196, 0), none, none, some (.iconst 0, 1, 0, 0, 0, 0), some (.iconst 1, 1, 0, 0, 0, 0), some (.iastore, 1, 0, 0, 0, 0), some (.return_, 1, 0, 0, 0, 0)]
def am_q64 : List (Option am_I) := [some (.aload_n 0, 1, 0, 0, 0, 0), some (.iconst 1, 1, 0, 0, 0, 0), some (.putfield 9, 3, 8, 0, 195, 0), none, none, some (.aload_n 0, 1, 0, 0, 0, 0), some (.iconst 0, 1, 0, 0, 0, 0), some (.putfield 29, 3, 8, 5, 207, 0), none, none, some (.return_, 1, 0, 0, 0, 0)]
def am_q65 : List (Option am_I) := [some (.aload_n 0, 1, 0, 0, 0, 0), some (.getfield 9, 3, 8, 0, 195, 0), none, none, some (.sipush 1200, 3, 0, 0, 0, 0), none, none, some (.if_icmp .gt 10, 3, 17, 0, 0, 0), none, none, some (.iload 5, 2, 0, 0, 0, 0), none, some (.bipush 20, 2, 0, 0, 0, 0), none, some (.if_icmp .le 13, 3, 27, 0, 0, 0), none, none, some (.aload_n 1, 1, 0, 0, 0, 0), some (.bipush 8, 2, 0, 0, 0, 0), none, some (.aload_n 1, 1, 0, 0, 0, 0), some (.getfield 36, 3, 5, 3, 114, 0), none, none, some (.invokevirtual 41, 3, 44, 3, 728, 0), none, none, some (.aload_n 0, 1, 0, 0, 0, 0), some (.getfield 9, 3, 8, 0, 195, 0), none, none, some (.istore 6, 2, 0, 0, 0, 0), none, some (.aload_n 0, 1, 0, 0, 0, 0), some (.dup, 1, 0, 0, 0, 0), some (.getfield 9, 3, 8, 0, 195, 0), none, none, some (.iconst 1, 1, 0, 0, 0, 0), some (.iadd, 1, 0, 0, 0, 0), some (.putfield 9, 3, 8, 0, 195, 0), none, none, some (.iload 4, 2, 0, 0, 0, 0), none, some (.iconst 2, 1, 0, 0, 0, 0), some (.iand, 1, 0, 0, 0, 0), some (.ifCond .eq 56, 3, 103, 0, 0, 0), none, none, some (.aload_n 1, 1, 0, 0, 0, 0), some (.invokevirtual 45, 3, 50, 1, 729, 0), none, none, some (.istore 7, 2, 0, 0, 0, 0), none, some (.aload_n 0, 1, 0, 0, 0, 0), some (.iload 6, 2, 0, 0, 0, 0), none, some (.bipush 12, 2, 0, 0, 0, 0), none, some (.iload 7, 2, 0, 0, 0, 0), none, some (.i2l, 1, 0, 0, 0, 0), some (.iconst 0, 1, 0, 0, 0, 0), some (.invokevirtual 49, 3, 66, 5, 730, 0), none, none, some (.iconst 0, 1, 0, 0, 0, 0), some (.istore 8, 2, 0, 0, 0, 0), none, some (.iload 8, 2, 0, 0, 0, 0), none, some (.iload 7, 2, 0, 0, 0, 0), none, some (.if_icmp .ge 25, 3, 100, 0, 0, 0), none, none, some (.aload_n 0, 1, 0, 0, 0, 0), some (.aload_n 1, 1, 0, 0, 0, 0), some (.aload_n 2, 1, 0, 0, 0, 0), some (.iload_n 3, 1, 0, 0, 0, 0), some (.iload 4, 2, 0, 0, 0, 0), none, some (.iconst 1, 1, 0, 0, 0, 0), some (.iand, 1, 0, 0, 0, 0), some (.iload 5, 2, 0, 0, 0, 0), none, some (.iconst 1, 1, 0, 0, 0, 0), some (.iadd, 1, 0, 0, 0, 0), some (.invokevirtual 53, 3, 65, 6, 734, 0), none, none, some (.pop, 1, 0, 0, 0, 0), some (.iinc 8 1, 3, 0, 0, 0, 0), none, none, some (.goto (-26), 3, 71, 0, 0, 0), none, none, some (.goto 178, 3, 278, 0, 0, 0), none, none, some (.iload 4, 2, 0, 0, 0, 0), none, some (.iconst 1, 1, 0, 0, 0, 0), some (.iand, 1, 0, 0, 0, 0), some (.ifCond .eq 19, 3, 126, 0, 0, 0), none, none, some (.aload_n 0, 1, 0, 0, 0, 0), some (.iload 6, 2, 0, 0, 0, 0), none, some (.bipush 13, 2, 0, 0, 0, 0), none, some (.aload_n 1, 1, 0, 0, 0, 0), some (.invokevirtual 57, 3, 49, 1, 735, 0), none, none, some (.iload_n 3, 1, 0, 0, 0, 0), some (.invokevirtual 49, 3, 66, 5, 730, 0), none, none, some (.goto 155, 3, 278, 0, 0, 0), none, none, some (.iload_n 3, 1, 0, 0, 0, 0), some (.bipush 10, 2, 0, 0, 0, 0), none, some (.if_icmp .ne 13, 3, 142, 0, 0, 0), none, none, some (.aload_n 0, 1, 0, 0, 0, 0), some (.aload_n 1, 1, 0, 0, 0, 0), some (.iload 6, 2, 0, 0, 0, 0), none, some (.invokevirtual 61, 3, 68, 3, 736, 0), none, none, some (.goto 139, 3, 278, 0, 0, 0), none, none, some (.aload_n 2, 1, 0, 0, 0, 0), some (.iload_n 3, 1, 0, 0, 0, 0), some (.invokevirtual 65, 3, 12, 2, 751, 0), none, none, some (.ifCond .eq 20, 3, 167, 0, 0, 0), none, none, some (.aload_n 0, 1, 0, 0, 0, 0), some (.iload 6, 2, 0, 0, 0, 0), none, some (.iload_n 3, 1, 0, 0, 0, 0), some (.aload_n 0, 1, 0, 0, 0, 0), some (.aload_n 1, 1, 0, 0, 0, 0), some (.iload_n 3, 1, 0, 0, 0, 0), some (.invokevirtual 71, 3, 67, 3, 752, 0), none, none, some (.iconst 0, 1, 0, 0, 0, 0), some (.invokevirtual 49, 3, 66, 5, 730, 0), none, none, some (.goto 114, 3, 278, 0, 0, 0), none, none, some (.aload_n 2, 1, 0, 0, 0, 0), some (.iload_n 3, 1, 0, 0, 0, 0), some (.invokevirtual 75, 3, 11, 2, 757, 0), none, none, some (.istore 7, 2, 0, 0, 0, 0), none, some (.iload 7, 2, 0, 0, 0, 0), none, some (.ifCond .ge 7, 3, 183, 0, 0, 0), none, none, some (.iconst 0, 1, 0, 0, 0, 0), some (.goto 13, 3, 193, 0, 0, 0), none, none, some (.aload_n 2, 1, 0, 0, 0, 0), some (.getfield 79, 3, 1, 5, 279, 0), none, none, some (.iload 7, 2, 0, 0, 0, 0), none, some (.aaload, 1, 0, 0, 0, 0), some (.getfield 83, 3, 7, 3, 245, 0), none, none, some (.istore 8, 2, 0, 0, 0, 0), none, some (.aload_n 0, 1, 0, 0, 0, 0), some (.iload 6, 2, 0, 0, 0, 0), none, some (.bipush 11, 2, 0, 0, 0, 0), none, some (.iload 7, 2, 0, 0, 0, 0), none, some (.ifCond .ge 7, 3, 209, 0, 0, 0), none, none, some (.lconst 0, 1, 0, 0, 0, 0), some (.goto 14, 3, 220, 0, 0, 0), none, none, some (.aload_n 2, 1, 0, 0, 0, 0), some (.getfield 79, 3, 1, 5, 279, 0), none, none, some (.iload 7, 2, 0, 0, 0, 0), none, some (.aaload, 1, 0, 0, 0, 0), some (.getfield 88, 3, 7, 1, 241, 0), none, none, some (.i2l, 1, 0, 0, 0, 0), some (.iload 7, 2, 0, 0, 0, 0), none, some (.invokevirtual 49, 3, 66, 5, 730, 0), none, none, some (.iconst 0, 1, 0, 0, 0, 0), some (.istore 9, 2, 0, 0, 0, 0), none, some (.iload 9, 2, 0, 0, 0, 0), none, some (.iload 8, 2, 0, 0, 0, 0), none, some (.if_icmp .ge 46, 3, 278, 0, 0, 0), none, none, some (.aload_n 0, 1, 0, 0, 0, 0), some (.aload_n 1, 1, 0, 0, 0, 0), some (.aload_n 2, 1, 0, 0, 0, 0), some (.aload_n 2, 1, 0, 0, 0, 0), some (.getfield 79, 3, 1, 5, 279, 0), none, none, some (.iload 7, 2, 0, 0, 0, 0), none, some (.aaload, 1, 0, 0, 0, 0), some (.getfield 91, 3, 7, 5, 249, 0), none, none, some (.iload 9, 2, 0, 0, 0, 0), none, some (.iaload, 1, 0, 0, 0, 0), some (.aload_n 2, 1, 0, 0, 0, 0), some (.getfield 79, 3, 1, 5, 279, 0), none, none, some (.iload 7, 2, 0, 0, 0, 0), none, some (.aaload, 1, 0, 0, 0, 0), some (.getfield 94, 3, 7, 6, 252, 0), none, none, some (.iload 9, 2, 0, 0, 0, 0), none, some (.iaload, 1, 0, 0, 0, 0), some (.iload 5, 2, 0, 0, 0, 0), none, some (.iconst 1, 1, 0, 0, 0, 0), some (.iadd, 1, 0, 0, 0, 0), some (.invokevirtual 53, 3, 65, 6, 734, 0), none, none, some (.pop, 1, 0, 0, 0, 0), some (.iinc 9 1, 3, 0, 0, 0, 0), none, none, some (.goto (-47), 3, 228, 0, 0, 0), none, none, some (.aload_n 0, 1, 0, 0, 0, 0), some (.getfield 26, 3, 8, 4, 206, 0), none, none, some (.iload 6, 2, 0, 0, 0, 0), none, some (.aload_n 0, 1, 0, 0, 0, 0), some (.getfield 9, 3, 8, 0, 195, 0), none, none, some (.iastore, 1, 0, 0, 0, 0), some (.iload 6, 2, 0, 0, 0, 0), none, some (.ireturn, 1, 0, 0, 0, 0)]
def am_q66 : List (Option am_I) := [some (.aload_n 0, 1, 0, 0, 0, 0), some (.getfield 15, 3, 8, 1, 196, 0), none, none, some (.iload_n 1, 1, 0, 0, 0, 0), some (.iload_n 2, 1, 0, 0, 0, 0), some (.iastore, 1, 0, 0, 0, 0), some (.aload_n 0, 1, 0, 0, 0, 0), some (.getfield 19, 3, 8, 2, 199, 0), none, none, some (.iload_n 1, 1, 0, 0, 0, 0), some (.lload_n 3, 1, 0, 0, 0, 0), some (.lastore, 1, 0, 0, 0, 0), some (.aload_n 0, 1, 0, 0, 0, 0), some (.getfield 23, 3, 8, 3, 203, 0), none, none, some (.iload_n 1, 1, 0, 0, 0, 0), some (.iload 5, 2, 0, 0, 0, 0), none, some (.iastore, 1, 0, 0, 0, 0), some (.return_, 1, 0, 0, 0, 0)]
def am_q67 : List (Option am_I) := [some (.iload_n 2, 1, 0, 0, 0, 0), some (.tableswitch 103 2 9 #[47, 60, 67, 75, 83, 103, 90, 96], 47, 0, 0, 0, 0), none, none, none, none, none, none, none, none, none, none, none, none, none, none, none, none, none, none, none, none, none, none, none, none, none, none, none, none, none, none, none, none, none, none, none, none, none, none, none, none, none, none, none, none, none, none, some (.aload_n 1, 1, 0, 0, 0, 0), some (.invokevirtual 97, 3, 48, 1, 740, 0), none, none, some (.ifCond .ne 7, 3, 59, 0, 0, 0), none, none, some (.lconst 0, 1, 0, 0, 0, 0), some (.goto 4, 3, 60, 0, 0, 0), none, none, some (.lconst 1, 1, 0, 0, 0, 0), some (.lreturn, 1, 0, 0, 0, 0), some (.aload_n 1, 1, 0, 0, 0, 0), some (.invokevirtual 97, 3, 48, 1, 740, 0), none, none, some (.i2b, 1, 0, 0, 0, 0), some (.i2l, 1, 0, 0, 0, 0), some (.lreturn, 1, 0, 0, 0, 0), some (.aload_n 1, 1, 0, 0, 0, 0), some (.invokevirtual 57, 3, 49, 1, 735, 0), none, none, some (.l2i, 1, 0, 0, 0, 0), some (.i2s, 1, 0, 0, 0, 0), some (.i2l, 1, 0, 0, 0, 0), some (.lreturn, 1, 0, 0, 0, 0), some (.aload_n 1, 1, 0, 0, 0, 0), some (.invokevirtual 57, 3, 49, 1, 735, 0), none, none, some (.l2i, 1, 0, 0, 0, 0), some (.i2c, 1, 0, 0, 0, 0), some (.i2l, 1, 0, 0, 0, 0), some (.lreturn, 1, 0, 0, 0, 0), some (.aload_n 1, 1, 0, 0, 0, 0), some (.invokevirtual 57, 3, 49, 1, 735, 0), none, none, some (.l2i, 1, 0, 0, 0, 0), some (.i2l, 1, 0, 0, 0, 0), some (.lreturn, 1, 0, 0, 0, 0), some (.aload_n 1, 1, 0, 0, 0, 0), some (.iconst 4, 1, 0, 0, 0, 0), some (.invokevirtual 100, 3, 47, 2, 756, 0), none, none, some (.lreturn, 1, 0, 0, 0, 0), some (.aload_n 1, 1, 0, 0, 0, 0), some (.bipush 8, 2, 0, 0, 0, 0), none, some (.invokevirtual 100, 3, 47, 2, 756, 0), none, none, some (.lreturn, 1, 0, 0, 0, 0), some (.aload_n 1, 1, 0, 0, 0, 0), some (.invokevirtual 57, 3, 49, 1, 735, 0), none, none, some (.lreturn, 1, 0, 0, 0, 0)]
def am_q68 : List (Option am_I) := [some (.aload_n 1, 1, 0, 0, 0, 0), some (.getfield 36, 3, 5, 3, 114, 0), none, none, some (.istore_n 3, 1, 0, 0, 0, 0), some (.aload_n 1, 1, 0, 0, 0, 0), some (.invokevirtual 97, 3, 48, 1, 740, 0), none, none, some (.istore 4, 2, 0, 0, 0, 0), none, some (.aload_n 1, 1, 0, 0, 0, 0), some (.getfield 36, 3, 5, 3, 114, 0), none, none, some (.istore 5, 2, 0, 0, 0, 0), none, some (.aload_n 0, 1, 0, 0, 0, 0), some (.getfield 29, 3, 8, 5, 207, 0), none, none, some (.istore 6, 2, 0, 0, 0, 0), none, some (.iload 4, 2, 0, 0, 0, 0), none, some (.ifCond .ne 12, 3, 37, 0, 0, 0), none, none, some (.aload_n 0, 1, 0, 0, 0, 0), some (.iload_n 2, 1, 0, 0, 0, 0), some (.iconst 1, 1, 0, 0, 0, 0), some (.lconst 0, 1, 0, 0, 0, 0), some (.iconst 0, 1, 0, 0, 0, 0), some (.invokevirtual 49, 3, 66, 5, 730, 0), none, none, some (.return_, 1, 0, 0, 0, 0), some (.iload 4, 2, 0, 0, 0, 0), none, some (.iconst 2, 1, 0, 0, 0, 0), some (.if_icmp .ne 17, 3, 57, 0, 0, 0), none, none, some (.aload_n 0, 1, 0, 0, 0, 0), some (.iload_n 2, 1, 0, 0, 0, 0), some (.bipush 13, 2, 0, 0, 0, 0), none, some (.aload_n 1, 1, 0, 0, 0, 0), some (.invokevirtual 57, 3, 49, 1, 735, 0), none, none, some (.bipush 10, 2, 0, 0, 0, 0), none, some (.invokevirtual 49, 3, 66, 5, 730, 0), none, none, some (.return_, 1, 0, 0, 0, 0), some (.iload 4, 2, 0, 0, 0, 0), none, some (.iconst 5, 1, 0, 0, 0, 0), some (.if_icmp .le 10, 3, 70, 0, 0, 0), none, none, some (.aload_n 1, 1, 0, 0, 0, 0), some (.bipush 6, 2, 0, 0, 0, 0), none, some (.iload_n 3, 1, 0, 0, 0, 0), some (.invokevirtual 41, 3, 44, 3, 728, 0), none, none, some (.iload 4, 2, 0, 0, 0, 0), none, some (.iconst 1, 1, 0, 0, 0, 0), some (.if_icmp .ne 7, 3, 80, 0, 0, 0), none, none, some (.iconst 0, 1, 0, 0, 0, 0), some (.goto 7, 3, 84, 0, 0, 0), none, none, some (.aload_n 1, 1, 0, 0, 0, 0), some (.invokevirtual 45, 3, 50, 1, 729, 0), none, none, some (.istore 7, 2, 0, 0, 0, 0), none, some (.iload 4, 2, 0, 0, 0, 0), none, some (.iconst 4, 1, 0, 0, 0, 0), some (.if_icmp .eq 24, 3, 113, 0, 0, 0), none, none, some (.iload 7, 2, 0, 0, 0, 0), none, some (.aload_n 1, 1, 0, 0, 0, 0), some (.getfield 104, 3, 5, 4, 119, 0), none, none, some (.aload_n 1, 1, 0, 0, 0, 0), some (.getfield 36, 3, 5, 3, 114, 0), none, none, some (.isub, 1, 0, 0, 0, 0), some (.if_icmp .le 10, 3, 113, 0, 0, 0), none, none, some (.aload_n 1, 1, 0, 0, 0, 0), some (.iconst 2, 1, 0, 0, 0, 0), some (.iload 5, 2, 0, 0, 0, 0), none, some (.invokevirtual 41, 3, 44, 3, 728, 0), none, none, some (.aload_n 1, 1, 0, 0, 0, 0), some (.getfield 36, 3, 5, 3, 114, 0), none, none, some (.iload 7, 2, 0, 0, 0, 0), none, some (.iadd, 1, 0, 0, 0, 0), some (.istore 8, 2, 0, 0, 0, 0), none, some (.iconst 0, 1, 0, 0, 0, 0), some (.istore 9, 2, 0, 0, 0, 0), none, some (.iload 9, 2, 0, 0, 0, 0), none, some (.iload 7, 2, 0, 0, 0, 0), none, some (.if_icmp .ge 63, 3, 192, 0, 0, 0), none, none, some (.iload 4, 2, 0, 0, 0, 0), none, some (.iconst 3, 1, 0, 0, 0, 0), some (.if_icmp .ne 12, 3, 147, 0, 0, 0), none, none, some (.aload_n 1, 1, 0, 0, 0, 0), some (.getfield 36, 3, 5, 3, 114, 0), none, none, some (.iload 8, 2, 0, 0, 0, 0), none, some (.if_icmp .ge 48, 3, 192, 0, 0, 0), none, none, some (.aload_n 0, 1, 0, 0, 0, 0), some (.iload 4, 2, 0, 0, 0, 0), none, some (.iconst 3, 1, 0, 0, 0, 0), some (.if_icmp .ne 12, 3, 163, 0, 0, 0), none, none, some (.aload_n 1, 1, 0, 0, 0, 0), some (.iload 8, 2, 0, 0, 0, 0), none, some (.invokevirtual 107, 3, 53, 2, 741, 0), none, none, some (.goto 23, 3, 183, 0, 0, 0), none, none, some (.iload 4, 2, 0, 0, 0, 0), none, some (.iconst 4, 1, 0, 0, 0, 0), some (.if_icmp .ne 12, 3, 178, 0, 0, 0), none, none, some (.aload_n 1, 1, 0, 0, 0, 0), some (.invokevirtual 57, 3, 49, 1, 735, 0), none, none, some (.l2i, 1, 0, 0, 0, 0), some (.i2c, 1, 0, 0, 0, 0), some (.goto 8, 3, 183, 0, 0, 0), none, none, some (.aload_n 1, 1, 0, 0, 0, 0), some (.invokevirtual 97, 3, 48, 1, 740, 0), none, none, some (.i2c, 1, 0, 0, 0, 0), some (.invokevirtual 111, 3, 69, 2, 747, 0), none, none, some (.iinc 9 1, 3, 0, 0, 0, 0), none, none, some (.goto (-64), 3, 125, 0, 0, 0), none, none, some (.aload_n 0, 1, 0, 0, 0, 0), some (.iload_n 2, 1, 0, 0, 0, 0), some (.bipush 10, 2, 0, 0, 0, 0), none, some (.aload_n 0, 1, 0, 0, 0, 0), some (.getfield 29, 3, 8, 5, 207, 0), none, none, some (.iload 6, 2, 0, 0, 0, 0), none, some (.isub, 1, 0, 0, 0, 0), some (.i2l, 1, 0, 0, 0, 0), some (.iload 6, 2, 0, 0, 0, 0), none, some (.invokevirtual 49, 3, 66, 5, 730, 0), none, none, some (.return_, 1, 0, 0, 0, 0)]
def am_q69 : List (Option am_I) := [some (.aload_n 0, 1, 0, 0, 0, 0), some (.getfield 29, 3, 8, 5, 207, 0), none, none, some (.sipush 960, 3, 0, 0, 0, 0), none, none, some (.if_icmp .ge 23, 3, 30, 0, 0, 0), none, none, some (.aload_n 0, 1, 0, 0, 0, 0), some (.getfield 32, 3, 8, 6, 208, 0), none, none, some (.aload_n 0, 1, 0, 0, 0, 0), some (.getfield 29, 3, 8, 5, 207, 0), none, none, some (.iload_n 1, 1, 0, 0, 0, 0), some (.castore, 1, 0, 0, 0, 0), some (.aload_n 0, 1, 0, 0, 0, 0), some (.dup, 1, 0, 0, 0, 0), some (.getfield 29, 3, 8, 5, 207, 0), none, none, some (.iconst 1, 1, 0, 0, 0, 0), some (.iadd, 1, 0, 0, 0, 0), some (.putfield 29, 3, 8, 5, 207, 0), none, none, some (.return_, 1, 0, 0, 0, 0)]
def am_q70 : List (Option am_I) := [some (.iload_n 1, 1, 0, 0, 0, 0), some (.iconst (-1), 1, 0, 0, 0, 0), some (.if_icmp .eq 28, 3, 30, 0, 0, 0), none, none, some (.aload_n 0, 1, 0, 0, 0, 0), some (.getfield 15, 3, 8, 1, 196, 0), none, none, some (.iload_n 1, 1, 0, 0, 0, 0), some (.iaload, 1, 0, 0, 0, 0), some (.iconst 2, 1, 0, 0, 0, 0), some (.if_icmp .lt 18, 3, 30, 0, 0, 0), none, none, some (.aload_n 0, 1, 0, 0, 0, 0), some (.getfield 15, 3, 8, 1, 196, 0), none, none, some (.iload_n 1, 1, 0, 0, 0, 0), some (.iaload, 1, 0, 0, 0, 0), some (.bipush 7, 2, 0, 0, 0, 0), none, some (.if_icmp .gt 7, 3, 30, 0, 0, 0), none, none, some (.iconst 1, 1, 0, 0, 0, 0), some (.goto 4, 3, 31, 0, 0, 0), none, none, some (.iconst 0, 1, 0, 0, 0, 0), some (.ireturn, 1, 0, 0, 0, 0)]
def am_q71 : List (Option am_I) := [some (.iconst (-1), 1, 0, 0, 0, 0), some (.istore 4, 2, 0, 0, 0, 0), none, some (.aload_n 0, 1, 0, 0, 0, 0), some (.getfield 15, 3, 8, 1, 196, 0), none, none, some (.iload_n 2, 1, 0, 0, 0, 0), some (.iaload, 1, 0, 0, 0, 0), some (.bipush 11, 2, 0, 0, 0, 0), none, some (.if_icmp .ne 32, 3, 43, 0, 0, 0), none, none, some (.aload_n 0, 1, 0, 0, 0, 0), some (.getfield 23, 3, 8, 3, 203, 0), none, none, some (.iload_n 2, 1, 0, 0, 0, 0), some (.iaload, 1, 0, 0, 0, 0), some (.ifCond .lt 23, 3, 43, 0, 0, 0), none, none, some (.aload_n 1, 1, 0, 0, 0, 0), some (.getfield 79, 3, 1, 5, 279, 0), none, none, some (.aload_n 0, 1, 0, 0, 0, 0), some (.getfield 23, 3, 8, 3, 203, 0), none, none, some (.iload_n 2, 1, 0, 0, 0, 0), some (.iaload, 1, 0, 0, 0, 0), some (.aaload, 1, 0, 0, 0, 0), some (.iload_n 3, 1, 0, 0, 0, 0), some (.invokevirtual 115, 3, 62, 2, 503, 0), none, none, some (.istore 4, 2, 0, 0, 0, 0), none, some (.goto 47, 3, 87, 0, 0, 0), none, none, some (.aload_n 0, 1, 0, 0, 0, 0), some (.getfield 15, 3, 8, 1, 196, 0), none, none, some (.iload_n 2, 1, 0, 0, 0, 0), some (.iaload, 1, 0, 0, 0, 0), some (.bipush 12, 2, 0, 0, 0, 0), none, some (.if_icmp .ne 36, 3, 87, 0, 0, 0), none, none, some (.iload_n 3, 1, 0, 0, 0, 0), some (.bipush 48, 2, 0, 0, 0, 0), none, some (.if_icmp .lt 30, 3, 87, 0, 0, 0), none, none, some (.iload_n 3, 1, 0, 0, 0, 0), some (.bipush 57, 2, 0, 0, 0, 0), none, some (.if_icmp .gt 24, 3, 87, 0, 0, 0), none, none, some (.iload_n 3, 1, 0, 0, 0, 0), some (.bipush 48, 2, 0, 0, 0, 0), none, some (.isub, 1, 0, 0, 0, 0), some (.i2l, 1, 0, 0, 0, 0), some (.aload_n 0, 1, 0, 0, 0, 0), some (.getfield 19, 3, 8, 2, 199, 0), none, none, some (.iload_n 2, 1, 0, 0, 0, 0), some (.laload, 1, 0, 0, 0, 0), some (.lcmp, 1, 0, 0, 0, 0), some (.ifCond .ge 9, 3, 87, 0, 0, 0), none, none, some (.iload_n 3, 1, 0, 0, 0, 0), some (.bipush 48, 2, 0, 0, 0, 0), none, some (.isub, 1, 0, 0, 0, 0), some (.istore 4, 2, 0, 0, 0, 0), none, some (.iload 4, 2, 0, 0, 0, 0), none, some (.iconst (-1), 1, 0, 0, 0, 0), some (.if_icmp .ne 5, 3, 95, 0, 0, 0), none, none, some (.iconst (-1), 1, 0, 0, 0, 0), some (.ireturn, 1, 0, 0, 0, 0), some (.iload_n 2, 1, 0, 0, 0, 0), some (.iconst 1, 1, 0, 0, 0, 0), some (.iadd, 1, 0, 0, 0, 0), some (.istore 5, 2, 0, 0, 0, 0), none, some (.iconst 0, 1, 0, 0, 0, 0), some (.istore 6, 2, 0, 0, 0, 0), none, some (.iload 6, 2, 0, 0, 0, 0), none, some (.iload 4, 2, 0, 0, 0, 0), none, some (.if_icmp .ge 18, 3, 125, 0, 0, 0), none, none, some (.aload_n 0, 1, 0, 0, 0, 0), some (.getfield 26, 3, 8, 4, 206, 0), none, none, some (.iload 5, 2, 0, 0, 0, 0), none, some (.iaload, 1, 0, 0, 0, 0), some (.istore 5, 2, 0, 0, 0, 0), none, some (.iinc 6 1, 3, 0, 0, 0, 0), none, none, some (.goto (-19), 3, 103, 0, 0, 0), none, none, some (.iload 5, 2, 0, 0, 0, 0), none, some (.ireturn, 1, 0, 0, 0, 0)]
def am_q72 : List (Option am_I) := [some (.aload_n 0, 1, 0, 0, 0, 0), some (.invokespecial 1, 3, 99999, 0, 99, 0), none, none, some (.aload_n 0, 1, 0, 0, 0, 0), some (.new 7, 3, 5, 0, 102, 0), none, none, some (.dup, 1, 0, 0, 0, 0), some (.invokespecial 9, 3, 41, 1, 104, 0), none, none, some (.putfield 10, 3, 9, 0, 428, 0), none, none, some (.aload_n 0, 1, 0, 0, 0, 0), some (.new 16, 3, 0, 0, 145, 0), none, none, some (.dup, 1, 0, 0, 0, 0), some (.invokespecial 18, 3, 0, 1, 147, 0), none, none, some (.putfield 19, 3, 9, 1, 429, 0), none, none, some (.aload_n 0, 1, 0, 0, 0, 0), some (.new 23, 3, 4, 0, 181, 0), none, none, some (.dup, 1, 0, 0, 0, 0), some (.invokespecial 25, 3, 33, 1, 183, 0), none, none, some (.putfield 26, 3, 9, 2, 430, 0), none, none, some (.aload_n 0, 1, 0, 0, 0, 0), some (.new 23, 3, 4, 0, 181, 0), none, none, some (.dup, 1, 0, 0, 0, 0), some (.invokespecial 25, 3, 33, 1, 183, 0), none, none, some (.putfield 30, 3, 9, 3, 431, 0), none, none, some (.aload_n 0, 1, 0, 0, 0, 0), some (.new 33, 3, 2, 0, 336, 0), none, none, some (.dup, 1, 0, 0, 0, 0), some (.invokespecial 35, 3, 17, 1, 338, 0), none, none, some (.putfield 36, 3, 9, 4, 432, 0), none, none, some (.aload_n 0, 1, 0, 0, 0, 0), some (.bipush 60, 2, 0, 0, 0, 0), none, some (.newarray .int, 2, 0, 0, 0, 0), none, some (.putfield 40, 3, 9, 5, 433, 0), none, none, some (.aload_n 0, 1, 0, 0, 0, 0), some (.iconst 0, 1, 0, 0, 0, 0), some (.putfield 44, 3, 9, 6, 434, 0), none, none, some (.aload_n 0, 1, 0, 0, 0, 0), some (.iconst (-1), 1, 0, 0, 0, 0), some (.putfield 48, 3, 9, 7, 435, 0), none, none, some (.aload_n 0, 1, 0, 0, 0, 0), some (.new 51, 3, 6, 0, 379, 0), none, none, some (.dup, 1, 0, 0, 0, 0), some (.invokespecial 53, 3, 54, 1, 381, 0), none, none, some (.putfield 54, 3, 9, 8, 436, 0), none, none, some (.aload_n 0, 1, 0, 0, 0, 0), some (.new 58, 3, 3, 0, 393, 0), none, none, some (.dup, 1, 0, 0, 0, 0), some (.invokespecial 60, 3, 29, 1, 395, 0), none, none, some (.putfield 61, 3, 9, 9, 437, 0), none, none, some (.return_, 1, 0, 0, 0, 0)]
def am_q73 : List (Option am_I) := [some (.aload_n 0, 1, 0, 0, 0, 0), some (.getfield 10, 3, 9, 0, 428, 0), none, none, some (.iload_n 1, 1, 0, 0, 0, 0), some (.iload_n 2, 1, 0, 0, 0, 0), some (.invokevirtual 65, 3, 42, 3, 463, 0), none, none, some (.ireturn, 1, 0, 0, 0, 0)]
def am_q74 : List (Option am_I) := [some (.aload_n 0, 1, 0, 0, 0, 0), some (.getfield 10, 3, 9, 0, 428, 0), none, none, some (.invokevirtual 69, 3, 43, 1, 545, 0), none, none, some (.istore_n 1, 1, 0, 0, 0, 0), some (.aload_n 0, 1, 0, 0, 0, 0), some (.getfield 30, 3, 9, 3, 431, 0), none, none, some (.invokevirtual 73, 3, 34, 1, 549, 0), none, none, some (.iconst 0, 1, 0, 0, 0, 0), some (.istore_n 2, 1, 0, 0, 0, 0), some (.iconst 0, 1, 0, 0, 0, 0), some (.istore_n 3, 1, 0, 0, 0, 0), some (.iload_n 3, 1, 0, 0, 0, 0), some (.iconst 4, 1, 0, 0, 0, 0), some (.if_icmp .gt 35, 3, 56, 0, 0, 0), none, none, some (.iload_n 3, 1, 0, 0, 0, 0), some (.ifCond .eq 8, 3, 33, 0, 0, 0), none, none, some (.iload_n 2, 1, 0, 0, 0, 0), some (.iload_n 1, 1, 0, 0, 0, 0), some (.if_icmp .ge 26, 3, 56, 0, 0, 0), none, none, some (.aload_n 0, 1, 0, 0, 0, 0), some (.getfield 30, 3, 9, 3, 431, 0), none, none, some (.aload_n 0, 1, 0, 0, 0, 0), some (.getfield 10, 3, 9, 0, 428, 0), none, none, some (.aload_n 0, 1, 0, 0, 0, 0), some (.getfield 19, 3, 9, 1, 429, 0), none, none, some (.iload_n 2, 1, 0, 0, 0, 0), some (.invokevirtual 76, 3, 35, 4, 557, 0), none, none, some (.istore_n 2, 1, 0, 0, 0, 0), some (.iinc 3 1, 3, 0, 0, 0, 0), none, none, some (.goto (-34), 3, 19, 0, 0, 0), none, none, some (.aload_n 0, 1, 0, 0, 0, 0), some (.getfield 26, 3, 9, 2, 430, 0), none, none, some (.astore_n 3, 1, 0, 0, 0, 0), some (.aload_n 0, 1, 0, 0, 0, 0), some (.aload_n 0, 1, 0, 0, 0, 0), some (.getfield 30, 3, 9, 3, 431, 0), none, none, some (.putfield 26, 3, 9, 2, 430, 0), none, none, some (.aload_n 0, 1, 0, 0, 0, 0), some (.aload_n 3, 1, 0, 0, 0, 0), some (.putfield 30, 3, 9, 3, 431, 0), none, none, some (.aload_n 0, 1, 0, 0, 0, 0), some (.invokevirtual 80, 3, 89, 1, 782, 0), none, none, some (.aload_n 0, 1, 0, 0, 0, 0), some (.getfield 61, 3, 9, 9, 437, 0), none, none, some (.invokevirtual 83, 3, 30, 1, 491, 0), none, none, some (.aload_n 0, 1, 0, 0, 0, 0), some (.getfield 26, 3, 9, 2, 430, 0), none, none, some (.getfield 84, 3, 4, 3, 313, 0), none, none, some (.ireturn, 1, 0, 0, 0, 0)]
def am_q75 : List (Option am_I) := [some (.iload_n 1, 1, 0, 0, 0, 0), some (.ifCond .ne 11, 3, 12, 0, 0, 0), none, none, some (.aload_n 0, 1, 0, 0, 0, 0), some (.getfield 10, 3, 9, 0, 428, 0), none, none, some (.getfield 87, 3, 5, 6, 124, 0), none, none, some (.ireturn, 1, 0, 0, 0, 0), some (.iload_n 1, 1, 0, 0, 0, 0), some (.iconst 1, 1, 0, 0, 0, 0), some (.if_icmp .ne 13, 3, 27, 0, 0, 0), none, none, some (.aload_n 0, 1, 0, 0, 0, 0), some (.getfield 10, 3, 9, 0, 428, 0), none, none, some (.getfield 90, 3, 5, 7, 126, 0), none, none, some (.goto 4, 3, 28, 0, 0, 0), none, none, some (.iconst (-1), 1, 0, 0, 0, 0), some (.ireturn, 1, 0, 0, 0, 0)]
def am_q76 : List (Option am_I) := [some (.aload_n 0, 1, 0, 0, 0, 0), some (.getfield 26, 3, 9, 2, 430, 0), none, none, some (.getfield 93, 3, 4, 0, 307, 0), none, none, some (.ireturn, 1, 0, 0, 0, 0)]
def am_q77 : List (Option am_I) := [some (.aload_n 0, 1, 0, 0, 0, 0), some (.iload_n 1, 1, 0, 0, 0, 0), some (.invokevirtual 96, 3, 88, 2, 794, 0), none, none, some (.iload_n 2, 1, 0, 0, 0, 0), some (.tableswitch 81 0 3 #[30, 41, 62, 72], 30, 0, 0, 0, 0), none, none, none, none, none, none, none, none, none, none, none, none, none, none, none, none, none, none, none, none, none, none, none, none, none, none, none, none, none, some (.aload_n 0, 1, 0, 0, 0, 0), some (.getfield 26, 3, 9, 2, 430, 0), none, none, some (.getfield 100, 3, 4, 4, 315, 0), none, none, some (.iload_n 1, 1, 0, 0, 0, 0), some (.iaload, 1, 0, 0, 0, 0), some (.i2l, 1, 0, 0, 0, 0), some (.lreturn, 1, 0, 0, 0, 0), some (.aload_n 0, 1, 0, 0, 0, 0), some (.getfield 26, 3, 9, 2, 430, 0), none, none, some (.getfield 103, 3, 4, 2, 310, 0), none, none, some (.getfield 107, 3, 8, 2, 200, 0), none, none, some (.aload_n 0, 1, 0, 0, 0, 0), some (.getfield 26, 3, 9, 2, 430, 0), none, none, some (.getfield 113, 3, 4, 6, 319, 0), none, none, some (.iload_n 1, 1, 0, 0, 0, 0), some (.iaload, 1, 0, 0, 0, 0), some (.laload, 1, 0, 0, 0, 0), some (.lreturn, 1, 0, 0, 0, 0), some (.aload_n 0, 1, 0, 0, 0, 0), some (.getfield 26, 3, 9, 2, 430, 0), none, none, some (.getfield 116, 3, 4, 5, 317, 0), none, none, some (.iload_n 1, 1, 0, 0, 0, 0), some (.laload, 1, 0, 0, 0, 0), some (.lreturn, 1, 0, 0, 0, 0), some (.aload_n 0, 1, 0, 0, 0, 0), some (.getfield 26, 3, 9, 2, 430, 0), none, none, some (.iload_n 1, 1, 0, 0, 0, 0), some (.invokevirtual 119, 3, 37, 2, 813, 0), none, none, some (.lreturn, 1, 0, 0, 0, 0), some (.new 123, 3, 100, 125, 824, 0), none, none, none, none, none, none, none]
def am_q78 : List (Option am_I) := [some (.aload_n 0, 1, 0, 0, 0, 0), some (.iload_n 1, 1, 0, 0, 0, 0), some (.invokevirtual 96, 3, 88, 2, 794, 0), none, none, some (.aload_n 0, 1, 0, 0, 0, 0), some (.getfield 26, 3, 9, 2, 430, 0), none, none, some (.iload_n 1, 1, 0, 0, 0, 0), some (.iload_n 2, 1, 0, 0, 0, 0), some (.invokevirtual 126, 3, 38, 3, 495, 0), none, none, some (.istore_n 3, 1, 0, 0, 0, 0), some (.iload_n 3, 1, 0, 0, 0, 0), some (.iconst (-1), 1, 0, 0, 0, 0), some (.if_icmp .ne 7, 3, 24, 0, 0, 0), none, none, some (.iconst 0, 1, 0, 0, 0, 0), some (.goto 15, 3, 36, 0, 0, 0), none, none, some (.aload_n 0, 1, 0, 0, 0, 0), some (.getfield 26, 3, 9, 2, 430, 0), none, none, some (.getfield 103, 3, 4, 2, 310, 0), none, none, some (.getfield 130, 3, 8, 1, 197, 0), none, none, some (.iload_n 3, 1, 0, 0, 0, 0), some (.iaload, 1, 0, 0, 0, 0), some (.ireturn, 1, 0, 0, 0, 0)]
def am_q79 : List (Option am_I) := [some (.aload_n 0, 1, 0, 0, 0, 0), some (.iload_n 1, 1, 0, 0, 0, 0), some (.invokevirtual 96, 3, 88, 2, 794, 0), none, none, some (.aload_n 0, 1, 0, 0, 0, 0), some (.getfield 26, 3, 9, 2, 430, 0), none, none, some (.iload_n 1, 1, 0, 0, 0, 0), some (.iload_n 2, 1, 0, 0, 0, 0), some (.invokevirtual 126, 3, 38, 3, 495, 0), none, none, some (.istore_n 3, 1, 0, 0, 0, 0), some (.iload_n 3, 1, 0, 0, 0, 0), some (.iconst (-1), 1, 0, 0, 0, 0), some (.if_icmp .ne 11, 3, 28, 0, 0, 0), none, none, some (.new 133, 3, 102, 135, 841, 0), none, none, none, none, none, none, none, some (.aload_n 0, 1, 0, 0, 0, 0), some (.getfield 26, 3, 9, 2, 430, 0), none, none, some (.getfield 103, 3, 4, 2, 310, 0), none, none, some (.getfield 107, 3, 8, 2, 200, 0), none, none, some (.iload_n 3, 1, 0, 0, 0, 0), some (.laload, 1, 0, 0, 0, 0), some (.lreturn, 1, 0, 0, 0, 0)]
def am_q80 : List (Option am_I) := [some (.aload_n 0, 1, 0, 0, 0, 0), some (.iload_n 1, 1, 0, 0, 0, 0), some (.invokevirtual 96, 3, 88, 2, 794, 0), none, none, some (.aload_n 0, 1, 0, 0, 0, 0), some (.getfield 26, 3, 9, 2, 430, 0), none, none, some (.iload_n 1, 1, 0, 0, 0, 0), some (.iload_n 2, 1, 0, 0, 0, 0), some (.invokevirtual 126, 3, 38, 3, 495, 0), none, none, some (.istore 4, 2, 0, 0, 0, 0), none, some (.iload 4, 2, 0, 0, 0, 0), none, some (.iconst (-1), 1, 0, 0, 0, 0), some (.if_icmp .eq 21, 3, 40, 0, 0, 0), none, none, some (.aload_n 0, 1, 0, 0, 0, 0), some (.getfield 26, 3, 9, 2, 430, 0), none, none, some (.getfield 103, 3, 4, 2, 310, 0), none, none, some (.getfield 130, 3, 8, 1, 197, 0), none, none, some (.iload 4, 2, 0, 0, 0, 0), none, some (.iaload, 1, 0, 0, 0, 0), some (.bipush 10, 2, 0, 0, 0, 0), none, some (.if_icmp .eq 11, 3, 48, 0, 0, 0), none, none, some (.new 133, 3, 102, 135, 841, 0), none, none, none, none, none, none, none, some (.iload_n 3, 1, 0, 0, 0, 0), some (.ifCond .lt 22, 3, 71, 0, 0, 0), none, none, some (.iload_n 3, 1, 0, 0, 0, 0), some (.i2l, 1, 0, 0, 0, 0), some (.aload_n 0, 1, 0, 0, 0, 0), some (.getfield 26, 3, 9, 2, 430, 0), none, none, some (.getfield 103, 3, 4, 2, 310, 0), none, none, some (.getfield 107, 3, 8, 2, 200, 0), none, none, some (.iload 4, 2, 0, 0, 0, 0), none, some (.laload, 1, 0, 0, 0, 0), some (.lcmp, 1, 0, 0, 0, 0), some (.ifCond .lt 11, 3, 79, 0, 0, 0), none, none, some (.new 123, 3, 100, 125, 824, 0), none, none, none, none, none, none, none, some (.aload_n 0, 1, 0, 0, 0, 0), some (.getfield 26, 3, 9, 2, 430, 0), none, none, some (.getfield 103, 3, 4, 2, 310, 0), none, none, some (.getfield 136, 3, 8, 6, 209, 0), none, none, some (.aload_n 0, 1, 0, 0, 0, 0), some (.getfield 26, 3, 9, 2, 430, 0), none, none, some (.getfield 103, 3, 4, 2, 310, 0), none, none, some (.getfield 140, 3, 8, 3, 205, 0), none, none, some (.iload 4, 2, 0, 0, 0, 0), none, some (.iaload, 1, 0, 0, 0, 0), some (.iload_n 3, 1, 0, 0, 0, 0), some (.iadd, 1, 0, 0, 0, 0), some (.caload, 1, 0, 0, 0, 0), some (.ireturn, 1, 0, 0, 0, 0)]
def am_q81 : List (Option am_I) := [some (.aload_n 0, 1, 0, 0, 0, 0), some (.getfield 36, 3, 9, 4, 432, 0), none, none, some (.iload_n 1, 1, 0, 0, 0, 0), some (.invokevirtual 143, 3, 18, 2, 479, 0), none, none, some (.ireturn, 1, 0, 0, 0, 0)]
def am_q82 : List (Option am_I) := [some (.aload_n 0, 1, 0, 0, 0, 0), some (.aload_n 0, 1, 0, 0, 0, 0), some (.getfield 36, 3, 9, 4, 432, 0), none, none, some (.invokevirtual 146, 3, 19, 1, 870, 0), none, none, some (.putfield 48, 3, 9, 7, 435, 0), none, none, some (.aload_n 0, 1, 0, 0, 0, 0), some (.getfield 48, 3, 9, 7, 435, 0), none, none, some (.ifCond .lt 11, 3, 26, 0, 0, 0), none, none, some (.new 123, 3, 100, 125, 824, 0), none, none, none, none, none, none, none, some (.iload_n 1, 1, 0, 0, 0, 0), some (.ifCond .eq 7, 3, 34, 0, 0, 0), none, none, some (.aload_n 0, 1, 0, 0, 0, 0), some (.invokevirtual 80, 3, 89, 1, 782, 0), none, none, some (.iconst 0, 1, 0, 0, 0, 0), some (.istore_n 2, 1, 0, 0, 0, 0), some (.iconst 0, 1, 0, 0, 0, 0), some (.istore_n 3, 1, 0, 0, 0, 0), some (.iload_n 3, 1, 0, 0, 0, 0), some (.aload_n 0, 1, 0, 0, 0, 0), some (.getfield 44, 3, 9, 6, 434, 0), none, none, some (.if_icmp .ge 44, 3, 87, 0, 0, 0), none, none, some (.aload_n 0, 1, 0, 0, 0, 0), some (.getfield 36, 3, 9, 4, 432, 0), none, none, some (.aload_n 0, 1, 0, 0, 0, 0), some (.getfield 26, 3, 9, 2, 430, 0), none, none, some (.aload_n 0, 1, 0, 0, 0, 0), some (.getfield 40, 3, 9, 5, 433, 0), none, none, some (.iload_n 3, 1, 0, 0, 0, 0), some (.iaload, 1, 0, 0, 0, 0), some (.invokevirtual 149, 3, 27, 3, 903, 0), none, none, some (.ifCond .eq 18, 3, 81, 0, 0, 0), none, none, some (.aload_n 0, 1, 0, 0, 0, 0), some (.getfield 40, 3, 9, 5, 433, 0), none, none, some (.iload_n 2, 1, 0, 0, 0, 0), some (.aload_n 0, 1, 0, 0, 0, 0), some (.getfield 40, 3, 9, 5, 433, 0), none, none, some (.iload_n 3, 1, 0, 0, 0, 0), some (.iaload, 1, 0, 0, 0, 0), some (.iastore, 1, 0, 0, 0, 0), some (.iinc 2 1, 3, 0, 0, 0, 0), none, none, some (.iinc 3 1, 3, 0, 0, 0, 0), none, none, some (.goto (-46), 3, 38, 0, 0, 0), none, none, some (.aload_n 0, 1, 0, 0, 0, 0), some (.iload_n 2, 1, 0, 0, 0, 0), some (.putfield 44, 3, 9, 6, 434, 0), none, none, some (.aload_n 0, 1, 0, 0, 0, 0), some (.getfield 61, 3, 9, 9, 437, 0), none, none, some (.invokevirtual 83, 3, 30, 1, 491, 0), none, none, some (.iload_n 2, 1, 0, 0, 0, 0), some (.ireturn, 1, 0, 0, 0, 0)]
def am_q83 : List (Option am_I) := [some (.aload_n 0, 1, 0, 0, 0, 0), some (.getfield 48, 3, 9, 7, 435, 0), none, none, some (.ireturn, 1, 0, 0, 0, 0)]
def am_q84 : List (Option am_I) := [some (.iload_n 1, 1, 0, 0, 0, 0), some (.ifCond .lt 11, 3, 12, 0, 0, 0), none, none, some (.iload_n 1, 1, 0, 0, 0, 0), some (.aload_n 0, 1, 0, 0, 0, 0), some (.getfield 44, 3, 9, 6, 434, 0), none, none, some (.if_icmp .lt 11, 3, 20, 0, 0, 0), none, none, some (.new 153, 3, 101, 155, 798, 0), none, none, none, none, none, none, none, some (.aload_n 0, 1, 0, 0, 0, 0), some (.getfield 40, 3, 9, 5, 433, 0), none, none, some (.iload_n 1, 1, 0, 0, 0, 0), some (.iaload, 1, 0, 0, 0, 0), some (.ireturn, 1, 0, 0, 0, 0)]
def am_q85 : List (Option am_I) := [some (.iload_n 1, 1, 0, 0, 0, 0), some (.ifCond .lt 21, 3, 22, 0, 0, 0), none, none, some (.iload_n 1, 1, 0, 0, 0, 0), some (.iconst 4, 1, 0, 0, 0, 0), some (.if_icmp .le 9, 3, 15, 0, 0, 0), none, none, some (.iload_n 1, 1, 0, 0, 0, 0), some (.bipush 100, 2, 0, 0, 0, 0), none, some (.if_icmp .lt 10, 3, 22, 0, 0, 0), none, none, some (.iload_n 1, 1, 0, 0, 0, 0), some (.sipush 200, 3, 0, 0, 0, 0), none, none, some (.if_icmp .le 11, 3, 30, 0, 0, 0), none, none, some (.new 123, 3, 100, 125, 824, 0), none, none, none, none, none, none, none, some (.aload_n 0, 1, 0, 0, 0, 0), some (.iload_n 2, 1, 0, 0, 0, 0), some (.invokevirtual 156, 3, 90, 2, 927, 0), none, none, some (.aload_n 0, 1, 0, 0, 0, 0), some (.getfield 54, 3, 9, 8, 436, 0), none, none, some (.getfield 159, 3, 6, 0, 386, 0), none, none, some (.ifCond .ne 16, 3, 58, 0, 0, 0), none, none, some (.iload_n 1, 1, 0, 0, 0, 0), some (.iconst 1, 1, 0, 0, 0, 0), some (.if_icmp .le 11, 3, 58, 0, 0, 0), none, none, some (.new 133, 3, 102, 135, 841, 0), none, none, none, none, none, none, none, some (.iload_n 1, 1, 0, 0, 0, 0), some (.tableswitch 84 0 4 #[33, 42, 50, 59, 76], 33, 0, 0, 0, 0), none, none, none, none, none, none, none, none, none, none, none, none, none, none, none, none, none, none, none, none, none, none, none, none, none, none, none, none, none, none, none, none, some (.aload_n 0, 1, 0, 0, 0, 0), some (.getfield 54, 3, 9, 8, 436, 0), none, none, some (.getfield 159, 3, 6, 0, 386, 0), none, none, some (.i2l, 1, 0, 0, 0, 0), some (.lreturn, 1, 0, 0, 0, 0), some (.aload_n 0, 1, 0, 0, 0, 0), some (.getfield 54, 3, 9, 8, 436, 0), none, none, some (.invokevirtual 162, 3, 56, 1, 935, 0), none, none, some (.lreturn, 1, 0, 0, 0, 0), some (.aload_n 0, 1, 0, 0, 0, 0), some (.getfield 54, 3, 9, 8, 436, 0), none, none, some (.iconst 0, 1, 0, 0, 0, 0), some (.invokevirtual 166, 3, 57, 2, 939, 0), none, none, some (.lreturn, 1, 0, 0, 0, 0), some (.aload_n 0, 1, 0, 0, 0, 0), some (.getfield 54, 3, 9, 8, 436, 0), none, none, some (.aload_n 0, 1, 0, 0, 0, 0), some (.getfield 54, 3, 9, 8, 436, 0), none, none, some (.getfield 159, 3, 6, 0, 386, 0), none, none, some (.iconst 1, 1, 0, 0, 0, 0), some (.isub, 1, 0, 0, 0, 0), some (.invokevirtual 166, 3, 57, 2, 939, 0), none, none, some (.lreturn, 1, 0, 0, 0, 0), some (.aload_n 0, 1, 0, 0, 0, 0), some (.getfield 54, 3, 9, 8, 436, 0), none, none, some (.invokevirtual 169, 3, 58, 1, 946, 0), none, none, some (.lreturn, 1, 0, 0, 0, 0), some (.aload_n 0, 1, 0, 0, 0, 0), some (.getfield 54, 3, 9, 8, 436, 0), none, none, some (.iload_n 1, 1, 0, 0, 0, 0), some (.bipush 100, 2, 0, 0, 0, 0), none, some (.isub, 1, 0, 0, 0, 0), some (.aload_n 0, 1, 0, 0, 0, 0), some (.getfield 54, 3, 9, 8, 436, 0), none, none, some (.getfield 159, 3, 6, 0, 386, 0), none, none, some (.imul, 1, 0, 0, 0, 0), some (.bipush 99, 2, 0, 0, 0, 0), none, some (.iadd, 1, 0, 0, 0, 0), some (.bipush 100, 2, 0, 0, 0, 0), none, some (.idiv, 1, 0, 0, 0, 0), some (.iconst 1, 1, 0, 0, 0, 0), some (.isub, 1, 0, 0, 0, 0), some (.invokevirtual 166, 3, 57, 2, 939, 0), none, none, some (.lreturn, 1, 0, 0, 0, 0)]
def am_q86 : List (Option am_I) := [some (.aload_n 0, 1, 0, 0, 0, 0), some (.getfield 61, 3, 9, 9, 437, 0), none, none, some (.invokevirtual 83, 3, 30, 1, 491, 0), none, none, some (.iconst 0, 1, 0, 0, 0, 0), some (.istore_n 3, 1, 0, 0, 0, 0), some (.iload_n 3, 1, 0, 0, 0, 0), some (.aload_n 0, 1, 0, 0, 0, 0), some (.getfield 44, 3, 9, 6, 434, 0), none, none, some (.if_icmp .ge 115, 3, 129, 0, 0, 0), none, none, some (.aload_n 0, 1, 0, 0, 0, 0), some (.getfield 26, 3, 9, 2, 430, 0), none, none, some (.aload_n 0, 1, 0, 0, 0, 0), some (.getfield 40, 3, 9, 5, 433, 0), none, none, some (.iload_n 3, 1, 0, 0, 0, 0), some (.iaload, 1, 0, 0, 0, 0), some (.iload_n 1, 1, 0, 0, 0, 0), some (.invokevirtual 126, 3, 38, 3, 495, 0), none, none, some (.istore 4, 2, 0, 0, 0, 0), none, some (.aload_n 0, 1, 0, 0, 0, 0), some (.getfield 26, 3, 9, 2, 430, 0), none, none, some (.getfield 103, 3, 4, 2, 310, 0), none, none, some (.iload 4, 2, 0, 0, 0, 0), none, some (.invokevirtual 172, 3, 70, 2, 519, 0), none, none, some (.ifCond .eq 78, 3, 123, 0, 0, 0), none, none, some (.aload_n 0, 1, 0, 0, 0, 0), some (.getfield 61, 3, 9, 9, 437, 0), none, none, some (.aload_n 0, 1, 0, 0, 0, 0), some (.getfield 26, 3, 9, 2, 430, 0), none, none, some (.getfield 103, 3, 4, 2, 310, 0), none, none, some (.getfield 107, 3, 8, 2, 200, 0), none, none, some (.iload 4, 2, 0, 0, 0, 0), none, some (.laload, 1, 0, 0, 0, 0), some (.invokevirtual 176, 3, 31, 2, 523, 0), none, none, some (.istore 5, 2, 0, 0, 0, 0), none, some (.aload_n 0, 1, 0, 0, 0, 0), some (.getfield 26, 3, 9, 2, 430, 0), none, none, some (.aload_n 0, 1, 0, 0, 0, 0), some (.getfield 40, 3, 9, 5, 433, 0), none, none, some (.iload_n 3, 1, 0, 0, 0, 0), some (.iaload, 1, 0, 0, 0, 0), some (.iload_n 2, 1, 0, 0, 0, 0), some (.invokevirtual 126, 3, 38, 3, 495, 0), none, none, some (.istore 6, 2, 0, 0, 0, 0), none, some (.aload_n 0, 1, 0, 0, 0, 0), some (.getfield 26, 3, 9, 2, 430, 0), none, none, some (.getfield 103, 3, 4, 2, 310, 0), none, none, some (.iload 6, 2, 0, 0, 0, 0), none, some (.invokevirtual 172, 3, 70, 2, 519, 0), none, none, some (.ifCond .eq 25, 3, 123, 0, 0, 0), none, none, some (.aload_n 0, 1, 0, 0, 0, 0), some (.getfield 61, 3, 9, 9, 437, 0), none, none, some (.iload 5, 2, 0, 0, 0, 0), none, some (.aload_n 0, 1, 0, 0, 0, 0), some (.getfield 26, 3, 9, 2, 430, 0), none, none, some (.getfield 103, 3, 4, 2, 310, 0), none, none, some (.getfield 107, 3, 8, 2, 200, 0), none, none, some (.iload 6, 2, 0, 0, 0, 0), none, some (.laload, 1, 0, 0, 0, 0), some (.invokevirtual 180, 3, 32, 3, 527, 0), none, none, some (.iinc 3 1, 3, 0, 0, 0, 0), none, none, some (.goto (-117), 3, 9, 0, 0, 0), none, none, some (.aload_n 0, 1, 0, 0, 0, 0), some (.getfield 61, 3, 9, 9, 437, 0), none, none, some (.getfield 184, 3, 3, 0, 400, 0), none, none, some (.ireturn, 1, 0, 0, 0, 0)]
def am_q87 : List (Option am_I) := [some (.iload_n 1, 1, 0, 0, 0, 0), some (.ifCond .lt 14, 3, 15, 0, 0, 0), none, none, some (.iload_n 1, 1, 0, 0, 0, 0), some (.aload_n 0, 1, 0, 0, 0, 0), some (.getfield 61, 3, 9, 9, 437, 0), none, none, some (.getfield 184, 3, 3, 0, 400, 0), none, none, some (.if_icmp .lt 11, 3, 23, 0, 0, 0), none, none, some (.new 153, 3, 101, 155, 798, 0), none, none, none, none, none, none, none, some (.iload_n 2, 1, 0, 0, 0, 0), some (.tableswitch 102 0 5 #[40, 50, 61, 72, 82, 92], 40, 0, 0, 0, 0), none, none, none, none, none, none, none, none, none, none, none, none, none, none, none, none, none, none, none, none, none, none, none, none, none, none, none, none, none, none, none, none, none, none, none, none, none, none, none, some (.aload_n 0, 1, 0, 0, 0, 0), some (.getfield 61, 3, 9, 9, 437, 0), none, none, some (.getfield 185, 3, 3, 1, 402, 0), none, none, some (.iload_n 1, 1, 0, 0, 0, 0), some (.laload, 1, 0, 0, 0, 0), some (.lreturn, 1, 0, 0, 0, 0), some (.aload_n 0, 1, 0, 0, 0, 0), some (.getfield 61, 3, 9, 9, 437, 0), none, none, some (.getfield 188, 3, 3, 2, 404, 0), none, none, some (.iload_n 1, 1, 0, 0, 0, 0), some (.iaload, 1, 0, 0, 0, 0), some (.i2l, 1, 0, 0, 0, 0), some (.lreturn, 1, 0, 0, 0, 0), some (.aload_n 0, 1, 0, 0, 0, 0), some (.getfield 61, 3, 9, 9, 437, 0), none, none, some (.getfield 191, 3, 3, 3, 406, 0), none, none, some (.iload_n 1, 1, 0, 0, 0, 0), some (.iaload, 1, 0, 0, 0, 0), some (.i2l, 1, 0, 0, 0, 0), some (.lreturn, 1, 0, 0, 0, 0), some (.aload_n 0, 1, 0, 0, 0, 0), some (.getfield 61, 3, 9, 9, 437, 0), none, none, some (.getfield 194, 3, 3, 4, 408, 0), none, none, some (.iload_n 1, 1, 0, 0, 0, 0), some (.laload, 1, 0, 0, 0, 0), some (.lreturn, 1, 0, 0, 0, 0), some (.aload_n 0, 1, 0, 0, 0, 0), some (.getfield 61, 3, 9, 9, 437, 0), none, none, some (.getfield 197, 3, 3, 5, 410, 0), none, none, some (.iload_n 1, 1, 0, 0, 0, 0), some (.laload, 1, 0, 0, 0, 0), some (.lreturn, 1, 0, 0, 0, 0), some (.aload_n 0, 1, 0, 0, 0, 0), some (.getfield 61, 3, 9, 9, 437, 0), none, none, some (.getfield 200, 3, 3, 6, 412, 0), none, none, some (.iload_n 1, 1, 0, 0, 0, 0), some (.laload, 1, 0, 0, 0, 0), some (.lreturn, 1, 0, 0, 0, 0), some (.new 123, 3, 100, 125, 824, 0), none, none, none, none, none, none, none]
def am_q88 : List (Option am_I) := [some (.iload_n 1, 1, 0, 0, 0, 0), some (.ifCond .lt 14, 3, 15, 0, 0, 0), none, none, some (.iload_n 1, 1, 0, 0, 0, 0), some (.aload_n 0, 1, 0, 0, 0, 0), some (.getfield 26, 3, 9, 2, 430, 0), none, none, some (.getfield 84, 3, 4, 3, 313, 0), none, none, some (.if_icmp .lt 11, 3, 23, 0, 0, 0), none, none, some (.new 153, 3, 101, 155, 798, 0), none, none, none, none, none, none, none, some (.return_, 1, 0, 0, 0, 0)]
def am_q89 : List (Option am_I) := [some (.iconst 0, 1, 0, 0, 0, 0), some (.istore_n 1, 1, 0, 0, 0, 0), some (.iload_n 1, 1, 0, 0, 0, 0), some (.aload_n 0, 1, 0, 0, 0, 0), some (.getfield 26, 3, 9, 2, 430, 0), none, none, some (.getfield 84, 3, 4, 3, 313, 0), none, none, some (.if_icmp .ge 16, 3, 26, 0, 0, 0), none, none, some (.aload_n 0, 1, 0, 0, 0, 0), some (.getfield 40, 3, 9, 5, 433, 0), none, none, some (.iload_n 1, 1, 0, 0, 0, 0), some (.iload_n 1, 1, 0, 0, 0, 0), some (.iastore, 1, 0, 0, 0, 0), some (.iinc 1 1, 3, 0, 0, 0, 0), none, none, some (.goto (-21), 3, 2, 0, 0, 0), none, none, some (.aload_n 0, 1, 0, 0, 0, 0), some (.aload_n 0, 1, 0, 0, 0, 0), some (.getfield 26, 3, 9, 2, 430, 0), none, none, some (.getfield 84, 3, 4, 3, 313, 0), none, none, some (.putfield 44, 3, 9, 6, 434, 0), none, none, some (.return_, 1, 0, 0, 0, 0)]
def am_q90 : List (Option am_I) := [some (.aload_n 0, 1, 0, 0, 0, 0), some (.getfield 54, 3, 9, 8, 436, 0), none, none, some (.iconst 0, 1, 0, 0, 0, 0), some (.putfield 159, 3, 6, 0, 386, 0), none, none, some (.iconst 0, 1, 0, 0, 0, 0), some (.istore_n 2, 1, 0, 0, 0, 0), some (.iload_n 2, 1, 0, 0, 0, 0), some (.aload_n 0, 1, 0, 0, 0, 0), some (.getfield 44, 3, 9, 6, 434, 0), none, none, some (.if_icmp .ge 57, 3, 72, 0, 0, 0), none, none, some (.aload_n 0, 1, 0, 0, 0, 0), some (.getfield 26, 3, 9, 2, 430, 0), none, none, some (.aload_n 0, 1, 0, 0, 0, 0), some (.getfield 40, 3, 9, 5, 433, 0), none, none, some (.iload_n 2, 1, 0, 0, 0, 0), some (.iaload, 1, 0, 0, 0, 0), some (.iload_n 1, 1, 0, 0, 0, 0), some (.invokevirtual 126, 3, 38, 3, 495, 0), none, none, some (.istore_n 3, 1, 0, 0, 0, 0), some (.aload_n 0, 1, 0, 0, 0, 0), some (.getfield 26, 3, 9, 2, 430, 0), none, none, some (.getfield 103, 3, 4, 2, 310, 0), none, none, some (.iload_n 3, 1, 0, 0, 0, 0), some (.invokevirtual 172, 3, 70, 2, 519, 0), none, none, some (.ifCond .eq 22, 3, 66, 0, 0, 0), none, none, some (.aload_n 0, 1, 0, 0, 0, 0), some (.getfield 54, 3, 9, 8, 436, 0), none, none, some (.aload_n 0, 1, 0, 0, 0, 0), some (.getfield 26, 3, 9, 2, 430, 0), none, none, some (.getfield 103, 3, 4, 2, 310, 0), none, none, some (.getfield 107, 3, 8, 2, 200, 0), none, none, some (.iload_n 3, 1, 0, 0, 0, 0), some (.laload, 1, 0, 0, 0, 0), some (.invokevirtual 203, 3, 55, 2, 931, 0), none, none, some (.iinc 2 1, 3, 0, 0, 0, 0), none, none, some (.goto (-59), 3, 10, 0, 0, 0), none, none, some (.return_, 1, 0, 0, 0, 0)]
def am_q91 : List (Option am_I) := [some (.aload_n 0, 1, 0, 0, 0, 0), some (.invokespecial 1, 3, 99999, 0, 965, 0), none, none, some (.aload_n 0, 1, 0, 0, 0, 0), some (.sipush 960, 3, 0, 0, 0, 0), none, none, some (.newarray .int, 2, 0, 0, 0, 0), none, some (.putfield 7, 3, 10, 1, 967, 0), none, none, some (.aload_n 0, 1, 0, 0, 0, 0), some (.sipush 1920, 3, 0, 0, 0, 0), none, none, some (.newarray .int, 2, 0, 0, 0, 0), none, some (.putfield 13, 3, 10, 4, 970, 0), none, none, some (.aload_n 0, 1, 0, 0, 0, 0), some (.iconst 2, 1, 0, 0, 0, 0), some (.newarray .int, 2, 0, 0, 0, 0), none, some (.putfield 16, 3, 10, 5, 971, 0), none, none, some (.aload_n 0, 1, 0, 0, 0, 0), some (.iconst 2, 1, 0, 0, 0, 0), some (.newarray .int, 2, 0, 0, 0, 0), none, some (.putfield 19, 3, 10, 6, 972, 0), none, none, some (.aload_n 0, 1, 0, 0, 0, 0), some (.bipush 8, 2, 0, 0, 0, 0), none, some (.newarray .int, 2, 0, 0, 0, 0), none, some (.putfield 22, 3, 10, 7, 973, 0), none, none, some (.aload_n 0, 1, 0, 0, 0, 0), some (.iconst 2, 1, 0, 0, 0, 0), some (.newarray .int, 2, 0, 0, 0, 0), none, some (.putfield 25, 3, 10, 8, 974, 0), none, none, some (.aload_n 0, 1, 0, 0, 0, 0), some (.bipush 120, 2, 0, 0, 0, 0), none, some (.newarray .int, 2, 0, 0, 0, 0), none, some (.putfield 28, 3, 10, 9, 975, 0), none, none, some (.aload_n 0, 1, 0, 0, 0, 0), some (.bipush 120, 2, 0, 0, 0, 0), none, some (.newarray .int, 2, 0, 0, 0, 0), none, some (.putfield 31, 3, 10, 10, 976, 0), none, none, some (.aload_n 0, 1, 0, 0, 0, 0), some (.bipush 8, 2, 0, 0, 0, 0), none, some (.newarray .int, 2, 0, 0, 0, 0), none, some (.putfield 34, 3, 10, 11, 977, 0), none, none, some (.aload_n 0, 1, 0, 0, 0, 0), some (.bipush 80, 2, 0, 0, 0, 0), none, some (.newarray .long, 2, 1, 0, 0, 0), none, some (.putfield 37, 3, 10, 12, 978, 0), none, none, some (.aload_n 0, 1, 0, 0, 0, 0), some (.bipush 80, 2, 0, 0, 0, 0), none, some (.newarray .int, 2, 0, 0, 0, 0), none, some (.putfield 41, 3, 10, 13, 979, 0), none, none, some (.aload_n 0, 1, 0, 0, 0, 0), some (.bipush 80, 2, 0, 0, 0, 0), none, some (.newarray .int, 2, 0, 0, 0, 0), none, some (.putfield 44, 3, 10, 14, 980, 0), none, none, some (.aload_n 0, 1, 0, 0, 0, 0), some (.bipush 80, 2, 0, 0, 0, 0), none, some (.newarray .int, 2, 0, 0, 0, 0), none, some (.putfield 47, 3, 10, 15, 981, 0), none, none, some (.aload_n 0, 1, 0, 0, 0, 0), some (.sipush 640, 3, 0, 0, 0, 0), none, none, some (.newarray .int, 2, 0, 0, 0, 0), none, some (.putfield 50, 3, 10, 16, 982, 0), none, none, some (.aload_n 0, 1, 0, 0, 0, 0), some (.sipush 640, 3, 0, 0, 0, 0), none, none, some (.newarray .long, 2, 1, 0, 0, 0), none, some (.putfield 53, 3, 10, 17, 983, 0), none, none, some (.aload_n 0, 1, 0, 0, 0, 0), some (.sipush 640, 3, 0, 0, 0, 0), none, none, some (.newarray .int, 2, 0, 0, 0, 0), none, some (.putfield 56, 3, 10, 18, 984, 0), none, none, some (.aload_n 0, 1, 0, 0, 0, 0), some (.iconst (-1), 1, 0, 0, 0, 0), some (.putfield 59, 3, 10, 26, 992, 0), none, none, some (.aload_n 0, 1, 0, 0, 0, 0), some (.iconst (-1), 1, 0, 0, 0, 0), some (.putfield 63, 3, 10, 28, 994, 0), none, none, some (.aload_n 0, 1, 0, 0, 0, 0), some (.bipush 40, 2, 0, 0, 0, 0), none, some (.newarray .int, 2, 0, 0, 0, 0), none, some (.putfield 66, 3, 10, 30, 996, 0), none, none, some (.aload_n 0, 1, 0, 0, 0, 0), some (.bipush 40, 2, 0, 0, 0, 0), none, some (.newarray .long, 2, 1, 0, 0, 0), none, some (.putfield 69, 3, 10, 31, 997, 0), none, none, some (.aload_n 0, 1, 0, 0, 0, 0), some (.bipush 40, 2, 0, 0, 0, 0), none, some (.newarray .int, 2, 0, 0, 0, 0), none, some (.putfield 72, 3, 10, 32, 998, 0), none, none, some (.aload_n 0, 1, 0, 0, 0, 0), some (.bipush 40, 2, 0, 0, 0, 0), none, some (.newarray .int, 2, 0, 0, 0, 0), none, some (.putfield 75, 3, 10, 37, 1003, 0), none, none, some (.aload_n 0, 1, 0, 0, 0, 0), some (.iconst (-1), 1, 0, 0, 0, 0), some (.putfield 78, 3, 10, 39, 1005, 0), none, none, some (.aload_n 0, 1, 0, 0, 0, 0), some (.bipush 12, 2, 0, 0, 0, 0), none, some (.newarray .int, 2, 0, 0, 0, 0), none, some (.putfield 81, 3, 10, 42, 1008, 0), none, none, some (.aload_n 0, 1, 0, 0, 0, 0), some (.bipush 12, 2, 0, 0, 0, 0), none, some (.newarray .int, 2, 0, 0, 0, 0), none, some (.putfield 84, 3, 10, 43, 1009, 0), none, none, some (.aload_n 0, 1, 0, 0, 0, 0), some (.bipush 12, 2, 0, 0, 0, 0), none, some (.newarray .long, 2, 1, 0, 0, 0), none, some (.putfield 87, 3, 10, 44, 1010, 0), none, none, some (.aload_n 0, 1, 0, 0, 0, 0), some (.bipush 60, 2, 0, 0, 0, 0), none, some (.newarray .int, 2, 0, 0, 0, 0), none, some (.putfield 90, 3, 10, 46, 1012, 0), none, none, some (.aload_n 0, 1, 0, 0, 0, 0), some (.bipush 60, 2, 0, 0, 0, 0), none, some (.newarray .long, 2, 1, 0, 0, 0), none, some (.putfield 93, 3, 10, 48, 1014, 0), none, none, some (.aload_n 0, 1, 0, 0, 0, 0), some (.bipush 60, 2, 0, 0, 0, 0), none, some (.newarray .long, 2, 1, 0, 0, 0), none, some (.putfield 96, 3, 10, 50, 1016, 0), none, none, some (.aload_n 0, 1, 0, 0, 0, 0), some (.bipush 60, 2, 0, 0, 0, 0), none, some (.newarray .int, 2, 0, 0, 0, 0), none, some (.putfield 99, 3, 10, 51, 1017, 0), none, none, some (.aload_n 0, 1, 0, 0, 0, 0), some (.bipush 60, 2, 0, 0, 0, 0), none, some (.newarray .int, 2, 0, 0, 0, 0), none, some (.putfield 102, 3, 10, 52, 1018, 0), none, none, some (.aload_n 0, 1, 0, 0, 0, 0), some (.bipush 60, 2, 0, 0, 0, 0), none, some (.newarray .long, 2, 1, 0, 0, 0), none, some (.putfield 105, 3, 10, 53, 1019, 0), none, none, some (.aload_n 0, 1, 0, 0, 0, 0), some (.bipush 60, 2, 0, 0, 0, 0), none, some (.newarray .long, 2, 1, 0, 0, 0), none, some (.putfield 108, 3, 10, 54, 1020, 0), none, none, some (.aload_n 0, 1, 0, 0, 0, 0), some (.bipush 60, 2, 0, 0, 0, 0), none, some (.newarray .long, 2, 1, 0, 0, 0), none, some (.putfield 111, 3, 10, 55, 1021, 0), none, none, some (.return_, 1, 0, 0, 0, 0)]
def am_q92 : List (Option am_I) := [some (.aload_n 0, 1, 0, 0, 0, 0), some (.getfield 114, 3, 10, 0, 966, 0), none, none, some (.ireturn, 1, 0, 0, 0, 0)]
def am_q93 : List (Option am_I) := [some (.aload_n 0, 1, 0, 0, 0, 0), some (.iload_n 1, 1, 0, 0, 0, 0), some (.putfield 114, 3, 10, 0, 966, 0), none, none, some (.iconst 0, 1, 0, 0, 0, 0), some (.ireturn, 1, 0, 0, 0, 0)]
def am_q94 : List (Option am_I) := [some (.aload_n 0, 1, 0, 0, 0, 0), some (.iconst 0, 1, 0, 0, 0, 0), some (.putfield 114, 3, 10, 0, 966, 0), none, none, some (.iload_n 2, 1, 0, 0, 0, 0), some (.iconst 1, 1, 0, 0, 0, 0), some (.if_icmp .lt 20, 3, 27, 0, 0, 0), none, none, some (.iload_n 2, 1, 0, 0, 0, 0), some (.iconst 4, 1, 0, 0, 0, 0), some (.if_icmp .gt 15, 3, 27, 0, 0, 0), none, none, some (.aload_n 0, 1, 0, 0, 0, 0), some (.getfield 117, 3, 10, 2, 968, 0), none, none, some (.iload_n 2, 1, 0, 0, 0, 0), some (.iadd, 1, 0, 0, 0, 0), some (.sipush 960, 3, 0, 0, 0, 0), none, none, some (.if_icmp .le 5, 3, 29, 0, 0, 0), none, none, some (.iconst 0, 1, 0, 0, 0, 0), some (.ireturn, 1, 0, 0, 0, 0), some (.iload_n 2, 1, 0, 0, 0, 0), some (.iconst 1, 1, 0, 0, 0, 0), some (.isub, 1, 0, 0, 0, 0), some (.istore_n 3, 1, 0, 0, 0, 0), some (.iload_n 3, 1, 0, 0, 0, 0), some (.ifCond .lt 38, 3, 72, 0, 0, 0), none, none, some (.aload_n 0, 1, 0, 0, 0, 0), some (.getfield 7, 3, 10, 1, 967, 0), none, none, some (.aload_n 0, 1, 0, 0, 0, 0), some (.getfield 117, 3, 10, 2, 968, 0), none, none, some (.iload_n 1, 1, 0, 0, 0, 0), some (.bipush 8, 2, 0, 0, 0, 0), none, some (.iload_n 3, 1, 0, 0, 0, 0), some (.imul, 1, 0, 0, 0, 0), some (.ishr, 1, 0, 0, 0, 0), some (.sipush 255, 3, 0, 0, 0, 0), none, none, some (.iand, 1, 0, 0, 0, 0), some (.iastore, 1, 0, 0, 0, 0), some (.aload_n 0, 1, 0, 0, 0, 0), some (.dup, 1, 0, 0, 0, 0), some (.getfield 117, 3, 10, 2, 968, 0), none, none, some (.iconst 1, 1, 0, 0, 0, 0), some (.iadd, 1, 0, 0, 0, 0), some (.putfield 117, 3, 10, 2, 968, 0), none, none, some (.iinc 3 (-1), 3, 0, 0, 0, 0), none, none, some (.goto (-36), 3, 33, 0, 0, 0), none, none, some (.iconst 1, 1, 0, 0, 0, 0), some (.ireturn, 1, 0, 0, 0, 0)]
def am_q95 : List (Option am_I) := [some (.aload_n 0, 1, 0, 0, 0, 0), some (.getfield 13, 3, 10, 4, 970, 0), none, none, some (.sipush 960, 3, 0, 0, 0, 0), none, none, some (.aload_n 0, 1, 0, 0, 0, 0), some (.getfield 120, 3, 10, 19, 985, 0), none, none, some (.imul, 1, 0, 0, 0, 0), some (.iload_n 1, 1, 0, 0, 0, 0), some (.iadd, 1, 0, 0, 0, 0), some (.iaload, 1, 0, 0, 0, 0), some (.ireturn, 1, 0, 0, 0, 0)]
def am_q96 : List (Option am_I) := [some (.aload_n 0, 1, 0, 0, 0, 0), some (.getfield 123, 3, 10, 25, 991, 0), none, none, some (.ifCond .ne 8, 3, 12, 0, 0, 0), none, none, some (.aload_n 0, 1, 0, 0, 0, 0), some (.iload_n 2, 1, 0, 0, 0, 0), some (.putfield 59, 3, 10, 26, 992, 0), none, none, some (.aload_n 0, 1, 0, 0, 0, 0), some (.aload_n 0, 1, 0, 0, 0, 0), some (.getfield 123, 3, 10, 25, 991, 0), none, none, some (.ifCond .ne 7, 3, 24, 0, 0, 0), none, none, some (.iload_n 1, 1, 0, 0, 0, 0), some (.goto 7, 3, 28, 0, 0, 0), none, none, some (.aload_n 0, 1, 0, 0, 0, 0), some (.getfield 123, 3, 10, 25, 991, 0), none, none, some (.putfield 123, 3, 10, 25, 991, 0), none, none, some (.return_, 1, 0, 0, 0, 0)]
def am_q97 : List (Option am_I) := [some (.aload_n 0, 1, 0, 0, 0, 0), some (.getfield 126, 3, 10, 21, 987, 0), none, none, some (.aload_n 0, 1, 0, 0, 0, 0), some (.getfield 129, 3, 10, 22, 988, 0), none, none, some (.if_icmp .lt 12, 3, 20, 0, 0, 0), none, none, some (.aload_n 0, 1, 0, 0, 0, 0), some (.iconst 2, 1, 0, 0, 0, 0), some (.aload_n 0, 1, 0, 0, 0, 0), some (.getfield 126, 3, 10, 21, 987, 0), none, none, some (.invokevirtual 132, 3, 96, 3, 1157, 0), none, none, some (.aload_n 0, 1, 0, 0, 0, 0), some (.getfield 123, 3, 10, 25, 991, 0), none, none, some (.ifCond .eq 5, 3, 29, 0, 0, 0), none, none, some (.iconst 0, 1, 0, 0, 0, 0), some (.ireturn, 1, 0, 0, 0, 0), some (.aload_n 0, 1, 0, 0, 0, 0), some (.dup, 1, 0, 0, 0, 0), some (.getfield 126, 3, 10, 21, 987, 0), none, none, some (.iconst 1, 1, 0, 0, 0, 0), some (.iadd, 1, 0, 0, 0, 0), some (.putfield 126, 3, 10, 21, 987, 0), none, none, some (.aload_n 0, 1, 0, 0, 0, 0), some (.aload_n 0, 1, 0, 0, 0, 0), some (.getfield 126, 3, 10, 21, 987, 0), none, none, some (.iconst 1, 1, 0, 0, 0, 0), some (.isub, 1, 0, 0, 0, 0), some (.invokevirtual 136, 3, 95, 2, 1165, 0), none, none, some (.ireturn, 1, 0, 0, 0, 0)]
def am_q98 : List (Option am_I) := [some (.aload_n 0, 1, 0, 0, 0, 0), some (.getfield 126, 3, 10, 21, 987, 0), none, none, some (.istore_n 1, 1, 0, 0, 0, 0), some (.lconst 0, 1, 0, 0, 0, 0), some (.lstore_n 2, 1, 0, 0, 0, 0), some (.iconst 1, 1, 0, 0, 0, 0), some (.istore 4, 2, 0, 0, 0, 0), none, some (.iconst 0, 1, 0, 0, 0, 0), some (.istore 5, 2, 0, 0, 0, 0), none, some (.iload 5, 2, 0, 0, 0, 0), none, some (.bipush 9, 2, 0, 0, 0, 0), none, some (.if_icmp .ge 109, 3, 126, 0, 0, 0), none, none, some (.iload 4, 2, 0, 0, 0, 0), none, some (.ifCond .eq 104, 3, 126, 0, 0, 0), none, none, some (.aload_n 0, 1, 0, 0, 0, 0), some (.getfield 123, 3, 10, 25, 991, 0), none, none, some (.ifCond .ne 97, 3, 126, 0, 0, 0), none, none, some (.aload_n 0, 1, 0, 0, 0, 0), some (.getfield 126, 3, 10, 21, 987, 0), none, none, some (.aload_n 0, 1, 0, 0, 0, 0), some (.getfield 129, 3, 10, 22, 988, 0), none, none, some (.if_icmp .lt 12, 3, 52, 0, 0, 0), none, none, some (.aload_n 0, 1, 0, 0, 0, 0), some (.iconst 2, 1, 0, 0, 0, 0), some (.iload_n 1, 1, 0, 0, 0, 0), some (.invokevirtual 132, 3, 96, 3, 1157, 0), none, none, some (.goto 71, 3, 120, 0, 0, 0), none, none, some (.aload_n 0, 1, 0, 0, 0, 0), some (.aload_n 0, 1, 0, 0, 0, 0), some (.getfield 126, 3, 10, 21, 987, 0), none, none, some (.invokevirtual 136, 3, 95, 2, 1165, 0), none, none, some (.istore 6, 2, 0, 0, 0, 0), none, some (.aload_n 0, 1, 0, 0, 0, 0), some (.dup, 1, 0, 0, 0, 0), some (.getfield 126, 3, 10, 21, 987, 0), none, none, some (.iconst 1, 1, 0, 0, 0, 0), some (.iadd, 1, 0, 0, 0, 0), some (.putfield 126, 3, 10, 21, 987, 0), none, none, some (.lload_n 2, 1, 0, 0, 0, 0), some (.iload 5, 2, 0, 0, 0, 0), none, some (.bipush 8, 2, 0, 0, 0, 0), none, some (.if_icmp .ge 11, 3, 88, 0, 0, 0), none, none, some (.iload 6, 2, 0, 0, 0, 0), none, some (.bipush 127, 2, 0, 0, 0, 0), none, some (.iand, 1, 0, 0, 0, 0), some (.goto 5, 3, 90, 0, 0, 0), none, none, some (.iload 6, 2, 0, 0, 0, 0), none, some (.i2l, 1, 0, 0, 0, 0), some (.bipush 7, 2, 0, 0, 0, 0), none, some (.iload 5, 2, 0, 0, 0, 0), none, some (.imul, 1, 0, 0, 0, 0), some (.lshl, 1, 0, 0, 0, 0), some (.lor, 1, 0, 0, 0, 0), some (.lstore_n 2, 1, 0, 0, 0, 0), some (.iload 5, 2, 0, 0, 0, 0), none, some (.bipush 8, 2, 0, 0, 0, 0), none, some (.if_icmp .ge 14, 3, 117, 0, 0, 0), none, none, some (.iload 6, 2, 0, 0, 0, 0), none, some (.bipush 127, 2, 0, 0, 0, 0), none, some (.if_icmp .le 7, 3, 117, 0, 0, 0), none, none, some (.iconst 1, 1, 0, 0, 0, 0), some (.goto 4, 3, 118, 0, 0, 0), none, none, some (.iconst 0, 1, 0, 0, 0, 0), some (.istore 4, 2, 0, 0, 0, 0), none, some (.iinc 5 1, 3, 0, 0, 0, 0), none, none, some (.goto (-110), 3, 13, 0, 0, 0), none, none, some (.lload_n 2, 1, 0, 0, 0, 0), some (.lreturn, 1, 0, 0, 0, 0)]
def am_q99 : List (Option am_I) := [some (.aload_n 0, 1, 0, 0, 0, 0), some (.getfield 126, 3, 10, 21, 987, 0), none, none, some (.istore_n 1, 1, 0, 0, 0, 0), some (.aload_n 0, 1, 0, 0, 0, 0), some (.invokevirtual 140, 3, 98, 1, 1189, 0), none, none, some (.lstore_n 2, 1, 0, 0, 0, 0), some (.aload_n 0, 1, 0, 0, 0, 0), some (.getfield 123, 3, 10, 25, 991, 0), none, none, some (.ifCond .ne 23, 3, 37, 0, 0, 0), none, none, some (.lload_n 2, 1, 0, 0, 0, 0), some (.lconst 0, 1, 0, 0, 0, 0), some (.lcmp, 1, 0, 0, 0, 0), some (.ifCond .lt 11, 3, 31, 0, 0, 0), none, none, some (.lload_n 2, 1, 0, 0, 0, 0), some (.ldc2_w 144, 3, 0, 0, 1193, 2147483647), none, none, some (.lcmp, 1, 0, 0, 0, 0), some (.ifCond .le 9, 3, 37, 0, 0, 0), none, none, some (.aload_n 0, 1, 0, 0, 0, 0), some (.iconst 2, 1, 0, 0, 0, 0), some (.iload_n 1, 1, 0, 0, 0, 0), some (.invokevirtual 132, 3, 96, 3, 1157, 0), none, none, some (.aload_n 0, 1, 0, 0, 0, 0), some (.getfield 123, 3, 10, 25, 991, 0), none, none, some (.ifCond .ne 8, 3, 49, 0, 0, 0), none, none, some (.lload_n 2, 1, 0, 0, 0, 0), some (.l2i, 1, 0, 0, 0, 0), some (.goto 4, 3, 50, 0, 0, 0), none, none, some (.iconst 0, 1, 0, 0, 0, 0), some (.ireturn, 1, 0, 0, 0, 0)]
def am_q100 : List (Option am_I) := [some (.aload_n 0, 1, 0, 0, 0, 0), some (.iload_n 1, 1, 0, 0, 0, 0), some (.invokevirtual 136, 3, 95, 2, 1165, 0), none, none, some (.bipush 8, 2, 0, 0, 0, 0), none, some (.ishl, 1, 0, 0, 0, 0), some (.aload_n 0, 1, 0, 0, 0, 0), some (.iload_n 1, 1, 0, 0, 0, 0), some (.iconst 1, 1, 0, 0, 0, 0), some (.iadd, 1, 0, 0, 0, 0), some (.invokevirtual 136, 3, 95, 2, 1165, 0), none, none, some (.ior, 1, 0, 0, 0, 0), some (.ireturn, 1, 0, 0, 0, 0)]
def am_q101 : List (Option am_I) := [some (.aload_n 0, 1, 0, 0, 0, 0), some (.iload_n 1, 1, 0, 0, 0, 0), some (.invokevirtual 146, 3, 100, 2, 1169, 0), none, none, some (.i2l, 1, 0, 0, 0, 0), some (.bipush 16, 2, 0, 0, 0, 0), none, some (.lshl, 1, 0, 0, 0, 0), some (.aload_n 0, 1, 0, 0, 0, 0), some (.iload_n 1, 1, 0, 0, 0, 0), some (.iconst 2, 1, 0, 0, 0, 0), some (.iadd, 1, 0, 0, 0, 0), some (.invokevirtual 146, 3, 100, 2, 1169, 0), none, none, some (.i2l, 1, 0, 0, 0, 0), some (.lor, 1, 0, 0, 0, 0), some (.lreturn, 1, 0, 0, 0, 0)]
def am_q102 : List (Option am_I) := [some (.iconst 0, 1, 0, 0, 0, 0), some (.istore 4, 2, 0, 0, 0, 0), none, some (.iload 4, 2, 0, 0, 0, 0), none, some (.aload_n 0, 1, 0, 0, 0, 0), some (.getfield 34, 3, 10, 11, 977, 0), none, none, some (.aload_n 0, 1, 0, 0, 0, 0), some (.getfield 149, 3, 10, 20, 986, 0), none, none, some (.iaload, 1, 0, 0, 0, 0), some (.if_icmp .ge 51, 3, 65, 0, 0, 0), none, none, some (.bipush 10, 2, 0, 0, 0, 0), none, some (.aload_n 0, 1, 0, 0, 0, 0), some (.getfield 149, 3, 10, 20, 986, 0), none, none, some (.imul, 1, 0, 0, 0, 0), some (.iload 4, 2, 0, 0, 0, 0), none, some (.iadd, 1, 0, 0, 0, 0), some (.istore 5, 2, 0, 0, 0, 0), none, some (.aload_n 0, 1, 0, 0, 0, 0), some (.getfield 37, 3, 10, 12, 978, 0), none, none, some (.iload 5, 2, 0, 0, 0, 0), none, some (.laload, 1, 0, 0, 0, 0), some (.lload_n 1, 1, 0, 0, 0, 0), some (.lcmp, 1, 0, 0, 0, 0), some (.ifCond .ne 21, 3, 59, 0, 0, 0), none, none, some (.iload_n 3, 1, 0, 0, 0, 0), some (.ifCond .lt 14, 3, 56, 0, 0, 0), none, none, some (.aload_n 0, 1, 0, 0, 0, 0), some (.getfield 44, 3, 10, 14, 980, 0), none, none, some (.iload 5, 2, 0, 0, 0, 0), none, some (.iaload, 1, 0, 0, 0, 0), some (.iload_n 3, 1, 0, 0, 0, 0), some (.if_icmp .ne 6, 3, 59, 0, 0, 0), none, none, some (.iload 5, 2, 0, 0, 0, 0), none, some (.ireturn, 1, 0, 0, 0, 0), some (.iinc 4 1, 3, 0, 0, 0, 0), none, none, some (.goto (-59), 3, 3, 0, 0, 0), none, none, some (.iconst (-1), 1, 0, 0, 0, 0), some (.ireturn, 1, 0, 0, 0, 0)]
def am_q103 : List (Option am_I) := [some (.iconst 0, 1, 0, 0, 0, 0), some (.istore_n 3, 1, 0, 0, 0, 0), some (.iload_n 3, 1, 0, 0, 0, 0), some (.aload_n 0, 1, 0, 0, 0, 0), some (.getfield 47, 3, 10, 15, 981, 0), none, none, some (.iload_n 1, 1, 0, 0, 0, 0), some (.iaload, 1, 0, 0, 0, 0), some (.if_icmp .ge 26, 3, 35, 0, 0, 0), none, none, some (.aload_n 0, 1, 0, 0, 0, 0), some (.getfield 50, 3, 10, 16, 982, 0), none, none, some (.bipush 8, 2, 0, 0, 0, 0), none, some (.iload_n 1, 1, 0, 0, 0, 0), some (.imul, 1, 0, 0, 0, 0), some (.iload_n 3, 1, 0, 0, 0, 0), some (.iadd, 1, 0, 0, 0, 0), some (.iaload, 1, 0, 0, 0, 0), some (.iload_n 2, 1, 0, 0, 0, 0), some (.if_icmp .ne 5, 3, 29, 0, 0, 0), none, none, some (.iload_n 3, 1, 0, 0, 0, 0), some (.ireturn, 1, 0, 0, 0, 0), some (.iinc 3 1, 3, 0, 0, 0, 0), none, none, some (.goto (-30), 3, 2, 0, 0, 0), none, none, some (.iconst (-1), 1, 0, 0, 0, 0), some (.ireturn, 1, 0, 0, 0, 0)]
def am_q104 : List (Option am_I) := [some (.aload_n 0, 1, 0, 0, 0, 0), some (.getfield 66, 3, 10, 30, 996, 0), none, none, some (.aload_n 0, 1, 0, 0, 0, 0), some (.getfield 152, 3, 10, 29, 995, 0), none, none, some (.iload_n 1, 1, 0, 0, 0, 0), some (.iastore, 1, 0, 0, 0, 0), some (.aload_n 0, 1, 0, 0, 0, 0), some (.getfield 69, 3, 10, 31, 997, 0), none, none, some (.aload_n 0, 1, 0, 0, 0, 0), some (.getfield 152, 3, 10, 29, 995, 0), none, none, some (.lload_n 2, 1, 0, 0, 0, 0), some (.lastore, 1, 0, 0, 0, 0), some (.aload_n 0, 1, 0, 0, 0, 0), some (.getfield 72, 3, 10, 32, 998, 0), none, none, some (.aload_n 0, 1, 0, 0, 0, 0), some (.getfield 152, 3, 10, 29, 995, 0), none, none, some (.iload 4, 2, 0, 0, 0, 0), none, some (.iastore, 1, 0, 0, 0, 0), some (.aload_n 0, 1, 0, 0, 0, 0), some (.dup, 1, 0, 0, 0, 0), some (.getfield 152, 3, 10, 29, 995, 0), none, none, some (.iconst 1, 1, 0, 0, 0, 0), some (.iadd, 1, 0, 0, 0, 0), some (.putfield 152, 3, 10, 29, 995, 0), none, none, some (.return_, 1, 0, 0, 0, 0)]
def am_q105 : List (Option am_I) := [some (.aload_n 0, 1, 0, 0, 0, 0), some (.getfield 155, 3, 10, 23, 989, 0), none, none, some (.ifCond .eq 10, 3, 14, 0, 0, 0), none, none, some (.aload_n 0, 1, 0, 0, 0, 0), some (.getfield 123, 3, 10, 25, 991, 0), none, none, some (.ifCond .eq 4, 3, 15, 0, 0, 0), none, none, some (.return_, 1, 0, 0, 0, 0), some (.aload_n 0, 1, 0, 0, 0, 0), some (.getfield 159, 3, 10, 24, 990, 0), none, none, some (.sipush 1200, 3, 0, 0, 0, 0), none, none, some (.if_icmp .ne 13, 3, 35, 0, 0, 0), none, none, some (.aload_n 0, 1, 0, 0, 0, 0), some (.bipush 8, 2, 0, 0, 0, 0), none, some (.aload_n 0, 1, 0, 0, 0, 0), some (.getfield 126, 3, 10, 21, 987, 0), none, none, some (.invokevirtual 132, 3, 96, 3, 1157, 0), none, none, some (.aload_n 0, 1, 0, 0, 0, 0), some (.dup, 1, 0, 0, 0, 0), some (.getfield 159, 3, 10, 24, 990, 0), none, none, some (.iconst 1, 1, 0, 0, 0, 0), some (.iadd, 1, 0, 0, 0, 0), some (.putfield 159, 3, 10, 24, 990, 0), none, none, some (.return_, 1, 0, 0, 0, 0)]
def am_q106 : List (Option am_I) := [some (.aload_n 0, 1, 0, 0, 0, 0), some (.invokevirtual 162, 3, 105, 1, 1237, 0), none, none, some (.aload_n 0, 1, 0, 0, 0, 0), some (.getfield 123, 3, 10, 25, 991, 0), none, none, some (.ifCond .eq 4, 3, 12, 0, 0, 0), none, none, some (.return_, 1, 0, 0, 0, 0), some (.iload_n 3, 1, 0, 0, 0, 0), some (.iconst 2, 1, 0, 0, 0, 0), some (.iand, 1, 0, 0, 0, 0), some (.ifCond .eq 22, 3, 37, 0, 0, 0), none, none, some (.aload_n 0, 1, 0, 0, 0, 0), some (.invokevirtual 165, 3, 99, 1, 1185, 0), none, none, some (.istore 4, 2, 0, 0, 0, 0), none, some (.aload_n 0, 1, 0, 0, 0, 0), some (.iload 4, 2, 0, 0, 0, 0), none, some (.lload_n 1, 1, 0, 0, 0, 0), some (.iload_n 3, 1, 0, 0, 0, 0), some (.iconst 1, 1, 0, 0, 0, 0), some (.iand, 1, 0, 0, 0, 0), some (.invokevirtual 169, 3, 104, 4, 1241, 0), none, none, some (.goto 47, 3, 81, 0, 0, 0), none, none, some (.iload_n 3, 1, 0, 0, 0, 0), some (.iconst 1, 1, 0, 0, 0, 0), some (.iand, 1, 0, 0, 0, 0), some (.ifCond .eq 11, 3, 51, 0, 0, 0), none, none, some (.aload_n 0, 1, 0, 0, 0, 0), some (.invokevirtual 140, 3, 98, 1, 1189, 0), none, none, some (.pop2, 1, 0, 0, 0, 0), some (.goto 33, 3, 81, 0, 0, 0), none, none, some (.lload_n 1, 1, 0, 0, 0, 0), some (.ldc2_w 173, 3, 0, 0, 1219, 10), none, none, some (.lcmp, 1, 0, 0, 0, 0), some (.ifCond .gt 12, 3, 68, 0, 0, 0), none, none, some (.aload_n 0, 1, 0, 0, 0, 0), some (.lload_n 1, 1, 0, 0, 0, 0), some (.l2i, 1, 0, 0, 0, 0), some (.invokevirtual 175, 3, 109, 2, 1245, 0), none, none, some (.goto 16, 3, 81, 0, 0, 0), none, none, some (.aload_n 0, 1, 0, 0, 0, 0), some (.iconst (-1), 1, 0, 0, 0, 0), some (.aload_n 0, 1, 0, 0, 0, 0), some (.lload_n 1, 1, 0, 0, 0, 0), some (.iconst 0, 1, 0, 0, 0, 0), some (.invokevirtual 179, 3, 102, 3, 1199, 0), none, none, some (.i2l, 1, 0, 0, 0, 0), some (.iconst 0, 1, 0, 0, 0, 0), some (.invokevirtual 169, 3, 104, 4, 1241, 0), none, none, some (.return_, 1, 0, 0, 0, 0)]
def am_q107 : List (Option am_I) := [some (.aload_n 0, 1, 0, 0, 0, 0), some (.getfield 152, 3, 10, 29, 995, 0), none, none, some (.ifCond .le 154, 3, 158, 0, 0, 0), none, none, some (.aload_n 0, 1, 0, 0, 0, 0), some (.getfield 123, 3, 10, 25, 991, 0), none, none, some (.ifCond .ne 147, 3, 158, 0, 0, 0), none, none, some (.aload_n 0, 1, 0, 0, 0, 0), some (.getfield 152, 3, 10, 29, 995, 0), none, none, some (.iconst 1, 1, 0, 0, 0, 0), some (.isub, 1, 0, 0, 0, 0), some (.istore_n 1, 1, 0, 0, 0, 0), some (.aload_n 0, 1, 0, 0, 0, 0), some (.getfield 66, 3, 10, 30, 996, 0), none, none, some (.iload_n 1, 1, 0, 0, 0, 0), some (.iaload, 1, 0, 0, 0, 0), some (.ifCond .ge 80, 3, 107, 0, 0, 0), none, none, some (.aload_n 0, 1, 0, 0, 0, 0), some (.getfield 69, 3, 10, 31, 997, 0), none, none, some (.iload_n 1, 1, 0, 0, 0, 0), some (.laload, 1, 0, 0, 0, 0), some (.l2i, 1, 0, 0, 0, 0), some (.istore_n 2, 1, 0, 0, 0, 0), some (.aload_n 0, 1, 0, 0, 0, 0), some (.getfield 72, 3, 10, 32, 998, 0), none, none, some (.iload_n 1, 1, 0, 0, 0, 0), some (.iaload, 1, 0, 0, 0, 0), some (.istore_n 3, 1, 0, 0, 0, 0), some (.aload_n 0, 1, 0, 0, 0, 0), some (.getfield 72, 3, 10, 32, 998, 0), none, none, some (.iload_n 1, 1, 0, 0, 0, 0), some (.dup2, 1, 0, 0, 0, 0), some (.iaload, 1, 0, 0, 0, 0), some (.iconst 1, 1, 0, 0, 0, 0), some (.iadd, 1, 0, 0, 0, 0), some (.iastore, 1, 0, 0, 0, 0), some (.iload_n 3, 1, 0, 0, 0, 0), some (.aload_n 0, 1, 0, 0, 0, 0), some (.getfield 47, 3, 10, 15, 981, 0), none, none, some (.iload_n 2, 1, 0, 0, 0, 0), some (.iaload, 1, 0, 0, 0, 0), some (.if_icmp .ne 16, 3, 78, 0, 0, 0), none, none, some (.aload_n 0, 1, 0, 0, 0, 0), some (.dup, 1, 0, 0, 0, 0), some (.getfield 152, 3, 10, 29, 995, 0), none, none, some (.iconst 1, 1, 0, 0, 0, 0), some (.isub, 1, 0, 0, 0, 0), some (.putfield 152, 3, 10, 29, 995, 0), none, none, some (.goto 29, 3, 104, 0, 0, 0), none, none, some (.aload_n 0, 1, 0, 0, 0, 0), some (.aload_n 0, 1, 0, 0, 0, 0), some (.getfield 53, 3, 10, 17, 983, 0), none, none, some (.bipush 8, 2, 0, 0, 0, 0), none, some (.iload_n 2, 1, 0, 0, 0, 0), some (.imul, 1, 0, 0, 0, 0), some (.iload_n 3, 1, 0, 0, 0, 0), some (.iadd, 1, 0, 0, 0, 0), some (.laload, 1, 0, 0, 0, 0), some (.aload_n 0, 1, 0, 0, 0, 0), some (.getfield 56, 3, 10, 18, 984, 0), none, none, some (.bipush 8, 2, 0, 0, 0, 0), none, some (.iload_n 2, 1, 0, 0, 0, 0), some (.imul, 1, 0, 0, 0, 0), some (.iload_n 3, 1, 0, 0, 0, 0), some (.iadd, 1, 0, 0, 0, 0), some (.iaload, 1, 0, 0, 0, 0), some (.invokevirtual 183, 3, 106, 3, 1233, 0), none, none, some (.goto 51, 3, 155, 0, 0, 0), none, none, some (.aload_n 0, 1, 0, 0, 0, 0), some (.getfield 66, 3, 10, 30, 996, 0), none, none, some (.iload_n 1, 1, 0, 0, 0, 0), some (.iaload, 1, 0, 0, 0, 0), some (.ifCond .ne 16, 3, 129, 0, 0, 0), none, none, some (.aload_n 0, 1, 0, 0, 0, 0), some (.dup, 1, 0, 0, 0, 0), some (.getfield 152, 3, 10, 29, 995, 0), none, none, some (.iconst 1, 1, 0, 0, 0, 0), some (.isub, 1, 0, 0, 0, 0), some (.putfield 152, 3, 10, 29, 995, 0), none, none, some (.goto 29, 3, 155, 0, 0, 0), none, none, some (.aload_n 0, 1, 0, 0, 0, 0), some (.getfield 66, 3, 10, 30, 996, 0), none, none, some (.iload_n 1, 1, 0, 0, 0, 0), some (.dup2, 1, 0, 0, 0, 0), some (.iaload, 1, 0, 0, 0, 0), some (.iconst 1, 1, 0, 0, 0, 0), some (.isub, 1, 0, 0, 0, 0), some (.iastore, 1, 0, 0, 0, 0), some (.aload_n 0, 1, 0, 0, 0, 0), some (.aload_n 0, 1, 0, 0, 0, 0), some (.getfield 69, 3, 10, 31, 997, 0), none, none, some (.iload_n 1, 1, 0, 0, 0, 0), some (.laload, 1, 0, 0, 0, 0), some (.aload_n 0, 1, 0, 0, 0, 0), some (.getfield 72, 3, 10, 32, 998, 0), none, none, some (.iload_n 1, 1, 0, 0, 0, 0), some (.iaload, 1, 0, 0, 0, 0), some (.invokevirtual 183, 3, 106, 3, 1233, 0), none, none, some (.goto (-155), 3, 0, 0, 0, 0), none, none, some (.return_, 1, 0, 0, 0, 0)]
def am_q108 : List (Option am_I) := [some (.aload_n 0, 1, 0, 0, 0, 0), some (.iconst 0, 1, 0, 0, 0, 0), some (.putfield 152, 3, 10, 29, 995, 0), none, none, some (.aload_n 0, 1, 0, 0, 0, 0), some (.lload_n 1, 1, 0, 0, 0, 0), some (.iload_n 3, 1, 0, 0, 0, 0), some (.invokevirtual 183, 3, 106, 3, 1233, 0), none, none, some (.aload_n 0, 1, 0, 0, 0, 0), some (.invokevirtual 187, 3, 107, 1, 1259, 0), none, none, some (.return_, 1, 0, 0, 0, 0)]
def am_q109 : List (Option am_I) := [some (.iload_n 1, 1, 0, 0, 0, 0), some (.bipush 10, 2, 0, 0, 0, 0), none, some (.if_icmp .ne 10, 3, 13, 0, 0, 0), none, none, some (.aload_n 0, 1, 0, 0, 0, 0), some (.invokevirtual 190, 3, 110, 1, 1249, 0), none, none, some (.goto 88, 3, 98, 0, 0, 0), none, none, some (.iload_n 1, 1, 0, 0, 0, 0), some (.iconst 3, 1, 0, 0, 0, 0), some (.if_icmp .le 17, 3, 32, 0, 0, 0), none, none, some (.iload_n 1, 1, 0, 0, 0, 0), some (.bipush 7, 2, 0, 0, 0, 0), none, some (.if_icmp .gt 11, 3, 32, 0, 0, 0), none, none, some (.aload_n 0, 1, 0, 0, 0, 0), some (.invokevirtual 140, 3, 98, 1, 1189, 0), none, none, some (.pop2, 1, 0, 0, 0, 0), some (.goto 69, 3, 98, 0, 0, 0), none, none, some (.iload_n 1, 1, 0, 0, 0, 0), some (.bipush 8, 2, 0, 0, 0, 0), none, some (.if_icmp .ne 7, 3, 42, 0, 0, 0), none, none, some (.iconst 4, 1, 0, 0, 0, 0), some (.goto 15, 3, 54, 0, 0, 0), none, none, some (.iload_n 1, 1, 0, 0, 0, 0), some (.bipush 9, 2, 0, 0, 0, 0), none, some (.if_icmp .ne 8, 3, 53, 0, 0, 0), none, none, some (.bipush 8, 2, 0, 0, 0, 0), none, some (.goto 4, 3, 54, 0, 0, 0), none, none, some (.iconst 1, 1, 0, 0, 0, 0), some (.istore_n 2, 1, 0, 0, 0, 0), some (.aload_n 0, 1, 0, 0, 0, 0), some (.getfield 126, 3, 10, 21, 987, 0), none, none, some (.iload_n 2, 1, 0, 0, 0, 0), some (.iadd, 1, 0, 0, 0, 0), some (.aload_n 0, 1, 0, 0, 0, 0), some (.getfield 129, 3, 10, 22, 988, 0), none, none, some (.if_icmp .le 12, 3, 77, 0, 0, 0), none, none, some (.aload_n 0, 1, 0, 0, 0, 0), some (.iconst 2, 1, 0, 0, 0, 0), some (.aload_n 0, 1, 0, 0, 0, 0), some (.getfield 126, 3, 10, 21, 987, 0), none, none, some (.invokevirtual 132, 3, 96, 3, 1157, 0), none, none, some (.aload_n 0, 1, 0, 0, 0, 0), some (.dup, 1, 0, 0, 0, 0), some (.getfield 126, 3, 10, 21, 987, 0), none, none, some (.aload_n 0, 1, 0, 0, 0, 0), some (.getfield 123, 3, 10, 25, 991, 0), none, none, some (.ifCond .ne 7, 3, 93, 0, 0, 0), none, none, some (.iload_n 2, 1, 0, 0, 0, 0), some (.goto 4, 3, 94, 0, 0, 0), none, none, some (.iconst 0, 1, 0, 0, 0, 0), some (.iadd, 1, 0, 0, 0, 0), some (.putfield 126, 3, 10, 21, 987, 0), none, none, some (.return_, 1, 0, 0, 0, 0)]
def am_q110 : List (Option am_I) := [some (.aload_n 0, 1, 0, 0, 0, 0), some (.getfield 126, 3, 10, 21, 987, 0), none, none, some (.istore_n 1, 1, 0, 0, 0, 0), some (.aload_n 0, 1, 0, 0, 0, 0), some (.invokevirtual 193, 3, 97, 1, 1203, 0), none, none, some (.istore_n 2, 1, 0, 0, 0, 0), some (.aload_n 0, 1, 0, 0, 0, 0), some (.getfield 123, 3, 10, 25, 991, 0), none, none, some (.ifCond .ne 15, 3, 29, 0, 0, 0), none, none, some (.iload_n 2, 1, 0, 0, 0, 0), some (.iconst 5, 1, 0, 0, 0, 0), some (.if_icmp .le 10, 3, 29, 0, 0, 0), none, none, some (.aload_n 0, 1, 0, 0, 0, 0), some (.bipush 6, 2, 0, 0, 0, 0), none, some (.iload_n 1, 1, 0, 0, 0, 0), some (.invokevirtual 132, 3, 96, 3, 1157, 0), none, none, some (.aload_n 0, 1, 0, 0, 0, 0), some (.getfield 123, 3, 10, 25, 991, 0), none, none, some (.ifCond .ne 8, 3, 41, 0, 0, 0), none, none, some (.iload_n 2, 1, 0, 0, 0, 0), some (.iconst 2, 1, 0, 0, 0, 0), some (.if_icmp .ge 4, 3, 42, 0, 0, 0), none, none, some (.return_, 1, 0, 0, 0, 0), some (.iload_n 2, 1, 0, 0, 0, 0), some (.iconst 2, 1, 0, 0, 0, 0), some (.if_icmp .ne 9, 3, 53, 0, 0, 0), none, none, some (.aload_n 0, 1, 0, 0, 0, 0), some (.invokevirtual 140, 3, 98, 1, 1189, 0), none, none, some (.pop2, 1, 0, 0, 0, 0), some (.return_, 1, 0, 0, 0, 0), some (.aload_n 0, 1, 0, 0, 0, 0), some (.getfield 126, 3, 10, 21, 987, 0), none, none, some (.istore_n 3, 1, 0, 0, 0, 0), some (.aload_n 0, 1, 0, 0, 0, 0), some (.invokevirtual 165, 3, 99, 1, 1185, 0), none, none, some (.istore 4, 2, 0, 0, 0, 0), none, some (.iload_n 2, 1, 0, 0, 0, 0), some (.iconst 4, 1, 0, 0, 0, 0), some (.if_icmp .ne 32, 3, 98, 0, 0, 0), none, none, some (.iconst 0, 1, 0, 0, 0, 0), some (.istore 5, 2, 0, 0, 0, 0), none, some (.iload 5, 2, 0, 0, 0, 0), none, some (.iload 4, 2, 0, 0, 0, 0), none, some (.if_icmp .ge 21, 3, 97, 0, 0, 0), none, none, some (.aload_n 0, 1, 0, 0, 0, 0), some (.getfield 123, 3, 10, 25, 991, 0), none, none, some (.ifCond .ne 14, 3, 97, 0, 0, 0), none, none, some (.aload_n 0, 1, 0, 0, 0, 0), some (.invokevirtual 140, 3, 98, 1, 1189, 0), none, none, some (.pop2, 1, 0, 0, 0, 0), some (.iinc 5 1, 3, 0, 0, 0, 0), none, none, some (.goto (-22), 3, 72, 0, 0, 0), none, none, some (.return_, 1, 0, 0, 0, 0), some (.aload_n 0, 1, 0, 0, 0, 0), some (.getfield 123, 3, 10, 25, 991, 0), none, none, some (.ifCond .ne 23, 3, 125, 0, 0, 0), none, none, some (.iload 4, 2, 0, 0, 0, 0), none, some (.aload_n 0, 1, 0, 0, 0, 0), some (.getfield 129, 3, 10, 22, 988, 0), none, none, some (.aload_n 0, 1, 0, 0, 0, 0), some (.getfield 126, 3, 10, 21, 987, 0), none, none, some (.isub, 1, 0, 0, 0, 0), some (.if_icmp .le 9, 3, 125, 0, 0, 0), none, none, some (.aload_n 0, 1, 0, 0, 0, 0), some (.iconst 2, 1, 0, 0, 0, 0), some (.iload_n 3, 1, 0, 0, 0, 0), some (.invokevirtual 132, 3, 96, 3, 1157, 0), none, none, some (.aload_n 0, 1, 0, 0, 0, 0), some (.getfield 123, 3, 10, 25, 991, 0), none, none, some (.ifCond .eq 4, 3, 133, 0, 0, 0), none, none, some (.return_, 1, 0, 0, 0, 0), some (.aload_n 0, 1, 0, 0, 0, 0), some (.getfield 126, 3, 10, 21, 987, 0), none, none, some (.iload 4, 2, 0, 0, 0, 0), none, some (.iadd, 1, 0, 0, 0, 0), some (.istore 5, 2, 0, 0, 0, 0), none, some (.iload_n 2, 1, 0, 0, 0, 0), some (.iconst 3, 1, 0, 0, 0, 0), some (.if_icmp .ne 29, 3, 173, 0, 0, 0), none, none, some (.aload_n 0, 1, 0, 0, 0, 0), some (.getfield 126, 3, 10, 21, 987, 0), none, none, some (.iload 5, 2, 0, 0, 0, 0), none, some (.if_icmp .ge 20, 3, 173, 0, 0, 0), none, none, some (.aload_n 0, 1, 0, 0, 0, 0), some (.getfield 123, 3, 10, 25, 991, 0), none, none, some (.ifCond .ne 13, 3, 173, 0, 0, 0), none, none, some (.aload_n 0, 1, 0, 0, 0, 0), some (.iload 5, 2, 0, 0, 0, 0), none, some (.invokevirtual 196, 3, 111, 2, 1253, 0), none, none, some (.pop, 1, 0, 0, 0, 0), some (.goto (-28), 3, 142, 0, 0, 0), none, none, some (.aload_n 0, 1, 0, 0, 0, 0), some (.aload_n 0, 1, 0, 0, 0, 0), some (.getfield 123, 3, 10, 25, 991, 0), none, none, some (.ifCond .ne 8, 3, 186, 0, 0, 0), none, none, some (.iload 5, 2, 0, 0, 0, 0), none, some (.goto 7, 3, 190, 0, 0, 0), none, none, some (.aload_n 0, 1, 0, 0, 0, 0), some (.getfield 126, 3, 10, 21, 987, 0), none, none, some (.putfield 126, 3, 10, 21, 987, 0), none, none, some (.return_, 1, 0, 0, 0, 0)]
def am_q111 : List (Option am_I) := [some (.aload_n 0, 1, 0, 0, 0, 0), some (.aload_n 0, 1, 0, 0, 0, 0), some (.getfield 126, 3, 10, 21, 987, 0), none, none, some (.invokevirtual 136, 3, 95, 2, 1165, 0), none, none, some (.istore_n 2, 1, 0, 0, 0, 0), some (.iload_n 2, 1, 0, 0, 0, 0), some (.sipush 128, 3, 0, 0, 0, 0), none, none, some (.if_icmp .ge 7, 3, 20, 0, 0, 0), none, none, some (.iconst 0, 1, 0, 0, 0, 0), some (.goto 41, 3, 58, 0, 0, 0), none, none, some (.iload_n 2, 1, 0, 0, 0, 0), some (.sipush 192, 3, 0, 0, 0, 0), none, none, some (.if_icmp .lt 14, 3, 38, 0, 0, 0), none, none, some (.iload_n 2, 1, 0, 0, 0, 0), some (.sipush 224, 3, 0, 0, 0, 0), none, none, some (.if_icmp .ge 7, 3, 38, 0, 0, 0), none, none, some (.iconst 1, 1, 0, 0, 0, 0), some (.goto 23, 3, 58, 0, 0, 0), none, none, some (.iload_n 2, 1, 0, 0, 0, 0), some (.sipush 224, 3, 0, 0, 0, 0), none, none, some (.if_icmp .lt 14, 3, 56, 0, 0, 0), none, none, some (.iload_n 2, 1, 0, 0, 0, 0), some (.sipush 240, 3, 0, 0, 0, 0), none, none, some (.if_icmp .ge 7, 3, 56, 0, 0, 0), none, none, some (.iconst 2, 1, 0, 0, 0, 0), some (.goto 5, 3, 58, 0, 0, 0), none, none, some (.bipush 9, 2, 0, 0, 0, 0), none, some (.istore_n 3, 1, 0, 0, 0, 0), some (.iload_n 3, 1, 0, 0, 0, 0), some (.bipush 9, 2, 0, 0, 0, 0), none, some (.if_icmp .ge 17, 3, 79, 0, 0, 0), none, none, some (.aload_n 0, 1, 0, 0, 0, 0), some (.getfield 126, 3, 10, 21, 987, 0), none, none, some (.iload_n 3, 1, 0, 0, 0, 0), some (.iadd, 1, 0, 0, 0, 0), some (.iload_n 1, 1, 0, 0, 0, 0), some (.if_icmp .ge 7, 3, 79, 0, 0, 0), none, none, some (.iconst 1, 1, 0, 0, 0, 0), some (.goto 4, 3, 80, 0, 0, 0), none, none, some (.iconst 0, 1, 0, 0, 0, 0), some (.istore 4, 2, 0, 0, 0, 0), none, some (.iload_n 3, 1, 0, 0, 0, 0), some (.ifCond .ne 7, 3, 90, 0, 0, 0), none, none, some (.iload_n 2, 1, 0, 0, 0, 0), some (.goto 19, 3, 106, 0, 0, 0), none, none, some (.iload_n 3, 1, 0, 0, 0, 0), some (.iconst 1, 1, 0, 0, 0, 0), some (.if_icmp .ne 10, 3, 102, 0, 0, 0), none, none, some (.iload_n 2, 1, 0, 0, 0, 0), some (.bipush 31, 2, 0, 0, 0, 0), none, some (.iand, 1, 0, 0, 0, 0), some (.goto 7, 3, 106, 0, 0, 0), none, none, some (.iload_n 2, 1, 0, 0, 0, 0), some (.bipush 15, 2, 0, 0, 0, 0), none, some (.iand, 1, 0, 0, 0, 0), some (.istore 5, 2, 0, 0, 0, 0), none, some (.iconst 1, 1, 0, 0, 0, 0), some (.istore 6, 2, 0, 0, 0, 0), none, some (.iload 6, 2, 0, 0, 0, 0), none, some (.iload_n 3, 1, 0, 0, 0, 0), some (.if_icmp .gt 63, 3, 177, 0, 0, 0), none, none, some (.iload 4, 2, 0, 0, 0, 0), none, some (.ifCond .eq 58, 3, 177, 0, 0, 0), none, none, some (.aload_n 0, 1, 0, 0, 0, 0), some (.aload_n 0, 1, 0, 0, 0, 0), some (.getfield 126, 3, 10, 21, 987, 0), none, none, some (.iload 6, 2, 0, 0, 0, 0), none, some (.iadd, 1, 0, 0, 0, 0), some (.invokevirtual 136, 3, 95, 2, 1165, 0), none, none, some (.istore 7, 2, 0, 0, 0, 0), none, some (.iload 7, 2, 0, 0, 0, 0), none, some (.sipush 128, 3, 0, 0, 0, 0), none, none, some (.if_icmp .lt 15, 3, 155, 0, 0, 0), none, none, some (.iload 7, 2, 0, 0, 0, 0), none, some (.sipush 192, 3, 0, 0, 0, 0), none, none, some (.if_icmp .ge 7, 3, 155, 0, 0, 0), none, none, some (.iconst 1, 1, 0, 0, 0, 0), some (.goto 4, 3, 156, 0, 0, 0), none, none, some (.iconst 0, 1, 0, 0, 0, 0), some (.istore 4, 2, 0, 0, 0, 0), none, some (.iload 5, 2, 0, 0, 0, 0), none, some (.bipush 6, 2, 0, 0, 0, 0), none, some (.ishl, 1, 0, 0, 0, 0), some (.iload 7, 2, 0, 0, 0, 0), none, some (.bipush 63, 2, 0, 0, 0, 0), none, some (.iand, 1, 0, 0, 0, 0), some (.ior, 1, 0, 0, 0, 0), some (.istore 5, 2, 0, 0, 0, 0), none, some (.iinc 6 1, 3, 0, 0, 0, 0), none, none, some (.goto (-63), 3, 111, 0, 0, 0), none, none, some (.iload 4, 2, 0, 0, 0, 0), none, some (.ifCond .eq 50, 3, 229, 0, 0, 0), none, none, some (.iload_n 3, 1, 0, 0, 0, 0), some (.ifCond .eq 42, 3, 225, 0, 0, 0), none, none, some (.iload_n 3, 1, 0, 0, 0, 0), some (.iconst 1, 1, 0, 0, 0, 0), some (.if_icmp .ne 10, 3, 198, 0, 0, 0), none, none, some (.iload 5, 2, 0, 0, 0, 0), none, some (.bipush 127, 2, 0, 0, 0, 0), none, some (.if_icmp .gt 30, 3, 225, 0, 0, 0), none, none, some (.iload_n 3, 1, 0, 0, 0, 0), some (.iconst 2, 1, 0, 0, 0, 0), some (.if_icmp .ne 29, 3, 229, 0, 0, 0), none, none, some (.iload 5, 2, 0, 0, 0, 0), none, some (.sipush 2047, 3, 0, 0, 0, 0), none, none, some (.if_icmp .le 21, 3, 229, 0, 0, 0), none, none, some (.iload 5, 2, 0, 0, 0, 0), none, some (.ldc 199, 2, 0, 0, 1257, 55296), none, some (.if_icmp .lt 10, 3, 225, 0, 0, 0), none, none, some (.iload 5, 2, 0, 0, 0, 0), none, some (.ldc 200, 2, 0, 0, 1258, 57343), none, some (.if_icmp .le 7, 3, 229, 0, 0, 0), none, none, some (.iconst 1, 1, 0, 0, 0, 0), some (.goto 4, 3, 230, 0, 0, 0), none, none, some (.iconst 0, 1, 0, 0, 0, 0), some (.istore 4, 2, 0, 0, 0, 0), none, some (.iload 4, 2, 0, 0, 0, 0), none, some (.ifCond .ne 13, 3, 247, 0, 0, 0), none, none, some (.aload_n 0, 1, 0, 0, 0, 0), some (.bipush 6, 2, 0, 0, 0, 0), none, some (.aload_n 0, 1, 0, 0, 0, 0), some (.getfield 126, 3, 10, 21, 987, 0), none, none, some (.invokevirtual 132, 3, 96, 3, 1157, 0), none, none, some (.aload_n 0, 1, 0, 0, 0, 0), some (.dup, 1, 0, 0, 0, 0), some (.getfield 126, 3, 10, 21, 987, 0), none, none, some (.iload 4, 2, 0, 0, 0, 0), none, some (.ifCond .eq 9, 3, 263, 0, 0, 0), none, none, some (.iload_n 3, 1, 0, 0, 0, 0), some (.iconst 1, 1, 0, 0, 0, 0), some (.iadd, 1, 0, 0, 0, 0), some (.goto 4, 3, 264, 0, 0, 0), none, none, some (.iconst 0, 1, 0, 0, 0, 0), some (.iadd, 1, 0, 0, 0, 0), some (.putfield 126, 3, 10, 21, 987, 0), none, none, some (.iload 5, 2, 0, 0, 0, 0), none, some (.ireturn, 1, 0, 0, 0, 0)]
def am_q112 : List (Option am_I) := [some (.aload_n 0, 1, 0, 0, 0, 0), some (.iconst 0, 1, 0, 0, 0, 0), some (.putfield 114, 3, 10, 0, 966, 0), none, none, some (.aload_n 0, 1, 0, 0, 0, 0), some (.iconst 1, 1, 0, 0, 0, 0), some (.aload_n 0, 1, 0, 0, 0, 0), some (.getfield 201, 3, 10, 3, 969, 0), none, none, some (.isub, 1, 0, 0, 0, 0), some (.putfield 120, 3, 10, 19, 985, 0), none, none, some (.iconst 0, 1, 0, 0, 0, 0), some (.istore_n 1, 1, 0, 0, 0, 0), some (.iload_n 1, 1, 0, 0, 0, 0), some (.aload_n 0, 1, 0, 0, 0, 0), some (.getfield 117, 3, 10, 2, 968, 0), none, none, some (.if_icmp .ge 30, 3, 52, 0, 0, 0), none, none, some (.aload_n 0, 1, 0, 0, 0, 0), some (.getfield 13, 3, 10, 4, 970, 0), none, none, some (.sipush 960, 3, 0, 0, 0, 0), none, none, some (.aload_n 0, 1, 0, 0, 0, 0), some (.getfield 120, 3, 10, 19, 985, 0), none, none, some (.imul, 1, 0, 0, 0, 0), some (.iload_n 1, 1, 0, 0, 0, 0), some (.iadd, 1, 0, 0, 0, 0), some (.aload_n 0, 1, 0, 0, 0, 0), some (.getfield 7, 3, 10, 1, 967, 0), none, none, some (.iload_n 1, 1, 0, 0, 0, 0), some (.iaload, 1, 0, 0, 0, 0), some (.iastore, 1, 0, 0, 0, 0), some (.iinc 1 1, 3, 0, 0, 0, 0), none, none, some (.goto (-32), 3, 17, 0, 0, 0), none, none, some (.aload_n 0, 1, 0, 0, 0, 0), some (.getfield 16, 3, 10, 5, 971, 0), none, none, some (.aload_n 0, 1, 0, 0, 0, 0), some (.getfield 120, 3, 10, 19, 985, 0), none, none, some (.aload_n 0, 1, 0, 0, 0, 0), some (.getfield 117, 3, 10, 2, 968, 0), none, none, some (.iastore, 1, 0, 0, 0, 0), some (.aload_n 0, 1, 0, 0, 0, 0), some (.iconst 0, 1, 0, 0, 0, 0), some (.putfield 117, 3, 10, 2, 968, 0), none, none, some (.aload_n 0, 1, 0, 0, 0, 0), some (.getfield 19, 3, 10, 6, 972, 0), none, none, some (.aload_n 0, 1, 0, 0, 0, 0), some (.getfield 120, 3, 10, 19, 985, 0), none, none, some (.iconst 0, 1, 0, 0, 0, 0), some (.iastore, 1, 0, 0, 0, 0), some (.aload_n 0, 1, 0, 0, 0, 0), some (.getfield 25, 3, 10, 8, 974, 0), none, none, some (.aload_n 0, 1, 0, 0, 0, 0), some (.getfield 120, 3, 10, 19, 985, 0), none, none, some (.iconst 0, 1, 0, 0, 0, 0), some (.iastore, 1, 0, 0, 0, 0), some (.aload_n 0, 1, 0, 0, 0, 0), some (.iconst 0, 1, 0, 0, 0, 0), some (.putfield 159, 3, 10, 24, 990, 0), none, none, some (.aload_n 0, 1, 0, 0, 0, 0), some (.iconst 0, 1, 0, 0, 0, 0), some (.putfield 123, 3, 10, 25, 991, 0), none, none, some (.aload_n 0, 1, 0, 0, 0, 0), some (.iconst (-1), 1, 0, 0, 0, 0), some (.putfield 59, 3, 10, 26, 992, 0), none, none, some (.aload_n 0, 1, 0, 0, 0, 0), some (.iconst 1, 1, 0, 0, 0, 0), some (.putfield 155, 3, 10, 23, 989, 0), none, none, some (.iconst 0, 1, 0, 0, 0, 0), some (.istore_n 1, 1, 0, 0, 0, 0), some (.iconst 1, 1, 0, 0, 0, 0), some (.istore_n 2, 1, 0, 0, 0, 0), some (.iload_n 2, 1, 0, 0, 0, 0), some (.ifCond .eq 38, 3, 153, 0, 0, 0), none, none, some (.aload_n 0, 1, 0, 0, 0, 0), some (.getfield 123, 3, 10, 25, 991, 0), none, none, some (.ifCond .ne 31, 3, 153, 0, 0, 0), none, none, some (.aload_n 0, 1, 0, 0, 0, 0), some (.iload_n 1, 1, 0, 0, 0, 0), some (.invokevirtual 204, 3, 114, 2, 1153, 0), none, none, some (.istore_n 1, 1, 0, 0, 0, 0), some (.iload_n 1, 1, 0, 0, 0, 0), some (.aload_n 0, 1, 0, 0, 0, 0), some (.getfield 16, 3, 10, 5, 971, 0), none, none, some (.aload_n 0, 1, 0, 0, 0, 0), some (.getfield 120, 3, 10, 19, 985, 0), none, none, some (.iaload, 1, 0, 0, 0, 0), some (.if_icmp .ge 7, 3, 148, 0, 0, 0), none, none, some (.iconst 1, 1, 0, 0, 0, 0), some (.goto 4, 3, 149, 0, 0, 0), none, none, some (.iconst 0, 1, 0, 0, 0, 0), some (.istore_n 2, 1, 0, 0, 0, 0), some (.goto (-36), 3, 114, 0, 0, 0), none, none, some (.aload_n 0, 1, 0, 0, 0, 0), some (.iconst 0, 1, 0, 0, 0, 0), some (.putfield 155, 3, 10, 23, 989, 0), none, none, some (.aload_n 0, 1, 0, 0, 0, 0), some (.aload_n 0, 1, 0, 0, 0, 0), some (.getfield 123, 3, 10, 25, 991, 0), none, none, some (.putfield 207, 3, 10, 27, 993, 0), none, none, some (.aload_n 0, 1, 0, 0, 0, 0), some (.aload_n 0, 1, 0, 0, 0, 0), some (.getfield 59, 3, 10, 26, 992, 0), none, none, some (.putfield 63, 3, 10, 28, 994, 0), none, none, some (.aload_n 0, 1, 0, 0, 0, 0), some (.getfield 123, 3, 10, 25, 991, 0), none, none, some (.ifCond .ne 7, 3, 185, 0, 0, 0), none, none, some (.iconst 1, 1, 0, 0, 0, 0), some (.goto 4, 3, 186, 0, 0, 0), none, none, some (.iconst 0, 1, 0, 0, 0, 0), some (.istore_n 3, 1, 0, 0, 0, 0), some (.aload_n 0, 1, 0, 0, 0, 0), some (.iconst 0, 1, 0, 0, 0, 0), some (.putfield 123, 3, 10, 25, 991, 0), none, none, some (.iload_n 3, 1, 0, 0, 0, 0), some (.ifCond .ne 9, 3, 202, 0, 0, 0), none, none, some (.aload_n 0, 1, 0, 0, 0, 0), some (.iconst 1, 1, 0, 0, 0, 0), some (.invokevirtual 210, 3, 93, 2, 1275, 0), none, none, some (.ireturn, 1, 0, 0, 0, 0), some (.aload_n 0, 1, 0, 0, 0, 0), some (.aload_n 0, 1, 0, 0, 0, 0), some (.getfield 120, 3, 10, 19, 985, 0), none, none, some (.putfield 201, 3, 10, 3, 969, 0), none, none, some (.aload_n 0, 1, 0, 0, 0, 0), some (.aload_n 0, 1, 0, 0, 0, 0), some (.getfield 25, 3, 10, 8, 974, 0), none, none, some (.aload_n 0, 1, 0, 0, 0, 0), some (.getfield 201, 3, 10, 3, 969, 0), none, none, some (.iaload, 1, 0, 0, 0, 0), some (.putfield 213, 3, 10, 45, 1011, 0), none, none, some (.iconst 0, 1, 0, 0, 0, 0), some (.istore 4, 2, 0, 0, 0, 0), none, some (.iload 4, 2, 0, 0, 0, 0), none, some (.aload_n 0, 1, 0, 0, 0, 0), some (.getfield 213, 3, 10, 45, 1011, 0), none, none, some (.if_icmp .ge 18, 3, 250, 0, 0, 0), none, none, some (.aload_n 0, 1, 0, 0, 0, 0), some (.getfield 90, 3, 10, 46, 1012, 0), none, none, some (.iload 4, 2, 0, 0, 0, 0), none, some (.iload 4, 2, 0, 0, 0, 0), none, some (.iastore, 1, 0, 0, 0, 0), some (.iinc 4 1, 3, 0, 0, 0, 0), none, none, some (.goto (-21), 3, 226, 0, 0, 0), none, none, some (.aload_n 0, 1, 0, 0, 0, 0), some (.iconst 0, 1, 0, 0, 0, 0), some (.putfield 216, 3, 10, 49, 1015, 0), none, none, some (.aload_n 0, 1, 0, 0, 0, 0), some (.getfield 25, 3, 10, 8, 974, 0), none, none, some (.aload_n 0, 1, 0, 0, 0, 0), some (.getfield 201, 3, 10, 3, 969, 0), none, none, some (.iaload, 1, 0, 0, 0, 0), some (.ireturn, 1, 0, 0, 0, 0)]
def am_q113 : List (Option am_I) := [some (.iconst 0, 1, 0, 0, 0, 0), some (.istore_n 2, 1, 0, 0, 0, 0), some (.iload_n 2, 1, 0, 0, 0, 0), some (.bipush 8, 2, 0, 0, 0, 0), none, some (.if_icmp .ge 110, 3, 115, 0, 0, 0), none, none, some (.aload_n 0, 1, 0, 0, 0, 0), some (.getfield 123, 3, 10, 25, 991, 0), none, none, some (.ifCond .ne 103, 3, 115, 0, 0, 0), none, none, some (.iload_n 1, 1, 0, 0, 0, 0), some (.iload_n 2, 1, 0, 0, 0, 0), some (.iadd, 1, 0, 0, 0, 0), some (.aload_n 0, 1, 0, 0, 0, 0), some (.getfield 16, 3, 10, 5, 971, 0), none, none, some (.aload_n 0, 1, 0, 0, 0, 0), some (.getfield 120, 3, 10, 19, 985, 0), none, none, some (.iaload, 1, 0, 0, 0, 0), some (.if_icmp .lt 20, 3, 47, 0, 0, 0), none, none, some (.aload_n 0, 1, 0, 0, 0, 0), some (.iconst 2, 1, 0, 0, 0, 0), some (.aload_n 0, 1, 0, 0, 0, 0), some (.getfield 16, 3, 10, 5, 971, 0), none, none, some (.aload_n 0, 1, 0, 0, 0, 0), some (.getfield 120, 3, 10, 19, 985, 0), none, none, some (.iaload, 1, 0, 0, 0, 0), some (.invokevirtual 132, 3, 96, 3, 1157, 0), none, none, some (.goto 65, 3, 109, 0, 0, 0), none, none, some (.iload_n 2, 1, 0, 0, 0, 0), some (.iconst 5, 1, 0, 0, 0, 0), some (.if_icmp .ge 60, 3, 109, 0, 0, 0), none, none, some (.aload_n 0, 1, 0, 0, 0, 0), some (.iload_n 1, 1, 0, 0, 0, 0), some (.iload_n 2, 1, 0, 0, 0, 0), some (.iadd, 1, 0, 0, 0, 0), some (.invokevirtual 136, 3, 95, 2, 1165, 0), none, none, some (.iload_n 2, 1, 0, 0, 0, 0), some (.ifCond .ne 8, 3, 68, 0, 0, 0), none, none, some (.bipush 70, 2, 0, 0, 0, 0), none, some (.goto 33, 3, 98, 0, 0, 0), none, none, some (.iload_n 2, 1, 0, 0, 0, 0), some (.iconst 1, 1, 0, 0, 0, 0), some (.if_icmp .ne 8, 3, 78, 0, 0, 0), none, none, some (.bipush 76, 2, 0, 0, 0, 0), none, some (.goto 23, 3, 98, 0, 0, 0), none, none, some (.iload_n 2, 1, 0, 0, 0, 0), some (.iconst 2, 1, 0, 0, 0, 0), some (.if_icmp .ne 8, 3, 88, 0, 0, 0), none, none, some (.bipush 82, 2, 0, 0, 0, 0), none, some (.goto 13, 3, 98, 0, 0, 0), none, none, some (.iload_n 2, 1, 0, 0, 0, 0), some (.iconst 3, 1, 0, 0, 0, 0), some (.if_icmp .ne 7, 3, 97, 0, 0, 0), none, none, some (.iconst 0, 1, 0, 0, 0, 0), some (.goto 4, 3, 98, 0, 0, 0), none, none, some (.iconst 2, 1, 0, 0, 0, 0), some (.if_icmp .eq 11, 3, 109, 0, 0, 0), none, none, some (.aload_n 0, 1, 0, 0, 0, 0), some (.iconst 1, 1, 0, 0, 0, 0), some (.iload_n 1, 1, 0, 0, 0, 0), some (.iload_n 2, 1, 0, 0, 0, 0), some (.iadd, 1, 0, 0, 0, 0), some (.invokevirtual 132, 3, 96, 3, 1157, 0), none, none, some (.iinc 2 1, 3, 0, 0, 0, 0), none, none, some (.goto (-110), 3, 2, 0, 0, 0), none, none, some (.aload_n 0, 1, 0, 0, 0, 0), some (.getfield 123, 3, 10, 25, 991, 0), none, none, some (.ifCond .eq 4, 3, 123, 0, 0, 0), none, none, some (.return_, 1, 0, 0, 0, 0), some (.aload_n 0, 1, 0, 0, 0, 0), some (.iload_n 1, 1, 0, 0, 0, 0), some (.bipush 6, 2, 0, 0, 0, 0), none, some (.iadd, 1, 0, 0, 0, 0), some (.invokevirtual 146, 3, 100, 2, 1169, 0), none, none, some (.bipush 20, 2, 0, 0, 0, 0), none, some (.if_icmp .ge 15, 3, 148, 0, 0, 0), none, none, some (.aload_n 0, 1, 0, 0, 0, 0), some (.iconst 1, 1, 0, 0, 0, 0), some (.iload_n 1, 1, 0, 0, 0, 0), some (.bipush 6, 2, 0, 0, 0, 0), none, some (.iadd, 1, 0, 0, 0, 0), some (.invokevirtual 132, 3, 96, 3, 1157, 0), none, none, some (.goto 59, 3, 204, 0, 0, 0), none, none, some (.iload_n 1, 1, 0, 0, 0, 0), some (.aload_n 0, 1, 0, 0, 0, 0), some (.iload_n 1, 1, 0, 0, 0, 0), some (.bipush 6, 2, 0, 0, 0, 0), none, some (.iadd, 1, 0, 0, 0, 0), some (.invokevirtual 146, 3, 100, 2, 1169, 0), none, none, some (.iadd, 1, 0, 0, 0, 0), some (.aload_n 0, 1, 0, 0, 0, 0), some (.getfield 16, 3, 10, 5, 971, 0), none, none, some (.aload_n 0, 1, 0, 0, 0, 0), some (.getfield 120, 3, 10, 19, 985, 0), none, none, some (.iaload, 1, 0, 0, 0, 0), some (.if_icmp .le 15, 3, 182, 0, 0, 0), none, none, some (.aload_n 0, 1, 0, 0, 0, 0), some (.iconst 2, 1, 0, 0, 0, 0), some (.iload_n 1, 1, 0, 0, 0, 0), some (.bipush 6, 2, 0, 0, 0, 0), none, some (.iadd, 1, 0, 0, 0, 0), some (.invokevirtual 132, 3, 96, 3, 1157, 0), none, none, some (.goto 25, 3, 204, 0, 0, 0), none, none, some (.aload_n 0, 1, 0, 0, 0, 0), some (.iload_n 1, 1, 0, 0, 0, 0), some (.bipush 16, 2, 0, 0, 0, 0), none, some (.iadd, 1, 0, 0, 0, 0), some (.invokevirtual 219, 3, 101, 2, 1173, 0), none, none, some (.lconst 0, 1, 0, 0, 0, 0), some (.lcmp, 1, 0, 0, 0, 0), some (.ifCond .ne 12, 3, 204, 0, 0, 0), none, none, some (.aload_n 0, 1, 0, 0, 0, 0), some (.iconst 1, 1, 0, 0, 0, 0), some (.iload_n 1, 1, 0, 0, 0, 0), some (.bipush 16, 2, 0, 0, 0, 0), none, some (.iadd, 1, 0, 0, 0, 0), some (.invokevirtual 132, 3, 96, 3, 1157, 0), none, none, some (.return_, 1, 0, 0, 0, 0)]
def am_q114 : List (Option am_I) := [some (.aload_n 0, 1, 0, 0, 0, 0), some (.getfield 19, 3, 10, 6, 972, 0), none, none, some (.aload_n 0, 1, 0, 0, 0, 0), some (.getfield 120, 3, 10, 19, 985, 0), none, none, some (.iaload, 1, 0, 0, 0, 0), some (.iconst 4, 1, 0, 0, 0, 0), some (.if_icmp .ne 10, 3, 20, 0, 0, 0), none, none, some (.aload_n 0, 1, 0, 0, 0, 0), some (.bipush 8, 2, 0, 0, 0, 0), none, some (.iload_n 1, 1, 0, 0, 0, 0), some (.invokevirtual 132, 3, 96, 3, 1157, 0), none, none, some (.aload_n 0, 1, 0, 0, 0, 0), some (.getfield 123, 3, 10, 25, 991, 0), none, none, some (.ifCond .ne 8, 3, 32, 0, 0, 0), none, none, some (.aload_n 0, 1, 0, 0, 0, 0), some (.iload_n 1, 1, 0, 0, 0, 0), some (.invokevirtual 223, 3, 113, 2, 1161, 0), none, none, some (.aload_n 0, 1, 0, 0, 0, 0), some (.getfield 123, 3, 10, 25, 991, 0), none, none, some (.ifCond .eq 5, 3, 41, 0, 0, 0), none, none, some (.iload_n 1, 1, 0, 0, 0, 0), some (.ireturn, 1, 0, 0, 0, 0), some (.aload_n 0, 1, 0, 0, 0, 0), some (.iconst 4, 1, 0, 0, 0, 0), some (.aload_n 0, 1, 0, 0, 0, 0), some (.getfield 120, 3, 10, 19, 985, 0), none, none, some (.imul, 1, 0, 0, 0, 0), some (.aload_n 0, 1, 0, 0, 0, 0), some (.getfield 19, 3, 10, 6, 972, 0), none, none, some (.aload_n 0, 1, 0, 0, 0, 0), some (.getfield 120, 3, 10, 19, 985, 0), none, none, some (.iaload, 1, 0, 0, 0, 0), some (.iadd, 1, 0, 0, 0, 0), some (.putfield 149, 3, 10, 20, 986, 0), none, none, some (.aload_n 0, 1, 0, 0, 0, 0), some (.getfield 22, 3, 10, 7, 973, 0), none, none, some (.aload_n 0, 1, 0, 0, 0, 0), some (.getfield 149, 3, 10, 20, 986, 0), none, none, some (.iload_n 1, 1, 0, 0, 0, 0), some (.iastore, 1, 0, 0, 0, 0), some (.aload_n 0, 1, 0, 0, 0, 0), some (.getfield 19, 3, 10, 6, 972, 0), none, none, some (.aload_n 0, 1, 0, 0, 0, 0), some (.getfield 120, 3, 10, 19, 985, 0), none, none, some (.dup2, 1, 0, 0, 0, 0), some (.iaload, 1, 0, 0, 0, 0), some (.iconst 1, 1, 0, 0, 0, 0), some (.iadd, 1, 0, 0, 0, 0), some (.iastore, 1, 0, 0, 0, 0), some (.aload_n 0, 1, 0, 0, 0, 0), some (.getfield 34, 3, 10, 11, 977, 0), none, none, some (.aload_n 0, 1, 0, 0, 0, 0), some (.getfield 149, 3, 10, 20, 986, 0), none, none, some (.iconst 0, 1, 0, 0, 0, 0), some (.iastore, 1, 0, 0, 0, 0), some (.iload_n 1, 1, 0, 0, 0, 0), some (.aload_n 0, 1, 0, 0, 0, 0), some (.iload_n 1, 1, 0, 0, 0, 0), some (.bipush 6, 2, 0, 0, 0, 0), none, some (.iadd, 1, 0, 0, 0, 0), some (.invokevirtual 146, 3, 100, 2, 1169, 0), none, none, some (.iadd, 1, 0, 0, 0, 0), some (.istore_n 2, 1, 0, 0, 0, 0), some (.aload_n 0, 1, 0, 0, 0, 0), some (.iload_n 1, 1, 0, 0, 0, 0), some (.bipush 8, 2, 0, 0, 0, 0), none, some (.iadd, 1, 0, 0, 0, 0), some (.invokevirtual 146, 3, 100, 2, 1169, 0), none, none, some (.istore_n 3, 1, 0, 0, 0, 0), some (.iload_n 3, 1, 0, 0, 0, 0), some (.bipush 20, 2, 0, 0, 0, 0), none, some (.if_icmp .lt 10, 3, 127, 0, 0, 0), none, none, some (.iload_n 3, 1, 0, 0, 0, 0), some (.iload_n 2, 1, 0, 0, 0, 0), some (.iload_n 1, 1, 0, 0, 0, 0), some (.isub, 1, 0, 0, 0, 0), some (.if_icmp .lt 15, 3, 139, 0, 0, 0), none, none, some (.aload_n 0, 1, 0, 0, 0, 0), some (.iconst 3, 1, 0, 0, 0, 0), some (.iload_n 1, 1, 0, 0, 0, 0), some (.bipush 8, 2, 0, 0, 0, 0), none, some (.iadd, 1, 0, 0, 0, 0), some (.invokevirtual 132, 3, 96, 3, 1157, 0), none, none, some (.goto 11, 3, 147, 0, 0, 0), none, none, some (.aload_n 0, 1, 0, 0, 0, 0), some (.iload_n 1, 1, 0, 0, 0, 0), some (.iload_n 3, 1, 0, 0, 0, 0), some (.iadd, 1, 0, 0, 0, 0), some (.iload_n 2, 1, 0, 0, 0, 0), some (.invokevirtual 226, 3, 116, 3, 1177, 0), none, none, some (.aload_n 0, 1, 0, 0, 0, 0), some (.getfield 123, 3, 10, 25, 991, 0), none, none, some (.ifCond .ne 10, 3, 161, 0, 0, 0), none, none, some (.aload_n 0, 1, 0, 0, 0, 0), some (.iload_n 1, 1, 0, 0, 0, 0), some (.iload_n 3, 1, 0, 0, 0, 0), some (.iadd, 1, 0, 0, 0, 0), some (.invokevirtual 229, 3, 119, 2, 1215, 0), none, none, some (.iconst 0, 1, 0, 0, 0, 0), some (.istore 4, 2, 0, 0, 0, 0), none, some (.iload_n 1, 1, 0, 0, 0, 0), some (.bipush 20, 2, 0, 0, 0, 0), none, some (.iadd, 1, 0, 0, 0, 0), some (.istore 5, 2, 0, 0, 0, 0), none, some (.iload 5, 2, 0, 0, 0, 0), none, some (.iload_n 2, 1, 0, 0, 0, 0), some (.if_icmp .ge 111, 3, 284, 0, 0, 0), none, none, some (.aload_n 0, 1, 0, 0, 0, 0), some (.getfield 123, 3, 10, 25, 991, 0), none, none, some (.ifCond .ne 104, 3, 284, 0, 0, 0), none, none, some (.aload_n 0, 1, 0, 0, 0, 0), some (.iload 5, 2, 0, 0, 0, 0), none, some (.iload_n 2, 1, 0, 0, 0, 0), some (.invokevirtual 232, 3, 115, 3, 1181, 0), none, none, some (.istore 6, 2, 0, 0, 0, 0), none, some (.aload_n 0, 1, 0, 0, 0, 0), some (.getfield 236, 3, 10, 56, 1022, 0), none, none, some (.lstore 7, 2, 0, 0, 0, 0), none, some (.aload_n 0, 1, 0, 0, 0, 0), some (.getfield 123, 3, 10, 25, 991, 0), none, none, some (.ifCond .ne 21, 3, 223, 0, 0, 0), none, none, some (.lload 7, 2, 0, 0, 0, 0), none, some (.lconst 1, 1, 0, 0, 0, 0), some (.lcmp, 1, 0, 0, 0, 0), some (.ifCond .ne 14, 3, 223, 0, 0, 0), none, none, some (.aload_n 0, 1, 0, 0, 0, 0), some (.iload 4, 2, 0, 0, 0, 0), none, some (.invokevirtual 240, 3, 121, 2, 1225, 0), none, none, some (.istore 4, 2, 0, 0, 0, 0), none, some (.goto 25, 3, 245, 0, 0, 0), none, none, some (.aload_n 0, 1, 0, 0, 0, 0), some (.getfield 123, 3, 10, 25, 991, 0), none, none, some (.ifCond .ne 18, 3, 245, 0, 0, 0), none, none, some (.lload 7, 2, 0, 0, 0, 0), none, some (.lconst 0, 1, 0, 0, 0, 0), some (.lcmp, 1, 0, 0, 0, 0), some (.ifCond .eq 11, 3, 245, 0, 0, 0), none, none, some (.aload_n 0, 1, 0, 0, 0, 0), some (.iload 5, 2, 0, 0, 0, 0), none, some (.lload 7, 2, 0, 0, 0, 0), none, some (.invokevirtual 243, 3, 122, 3, 1263, 0), none, none, some (.aload_n 0, 1, 0, 0, 0, 0), some (.getfield 123, 3, 10, 25, 991, 0), none, none, some (.ifCond .ne 28, 3, 277, 0, 0, 0), none, none, some (.lload 7, 2, 0, 0, 0, 0), none, some (.lconst 0, 1, 0, 0, 0, 0), some (.lcmp, 1, 0, 0, 0, 0), some (.ifCond .eq 21, 3, 277, 0, 0, 0), none, none, some (.aload_n 0, 1, 0, 0, 0, 0), some (.getfield 126, 3, 10, 21, 987, 0), none, none, some (.iload 6, 2, 0, 0, 0, 0), none, some (.if_icmp .ge 12, 3, 277, 0, 0, 0), none, none, some (.aload_n 0, 1, 0, 0, 0, 0), some (.iconst 5, 1, 0, 0, 0, 0), some (.aload_n 0, 1, 0, 0, 0, 0), some (.getfield 126, 3, 10, 21, 987, 0), none, none, some (.invokevirtual 132, 3, 96, 3, 1157, 0), none, none, some (.iload 6, 2, 0, 0, 0, 0), none, some (.istore 5, 2, 0, 0, 0, 0), none, some (.goto (-111), 3, 170, 0, 0, 0), none, none, some (.aload_n 0, 1, 0, 0, 0, 0), some (.getfield 123, 3, 10, 25, 991, 0), none, none, some (.ifCond .ne 9, 3, 297, 0, 0, 0), none, none, some (.aload_n 0, 1, 0, 0, 0, 0), some (.iload_n 1, 1, 0, 0, 0, 0), some (.iload_n 2, 1, 0, 0, 0, 0), some (.invokevirtual 247, 3, 124, 3, 1267, 0), none, none, some (.iload_n 2, 1, 0, 0, 0, 0), some (.ireturn, 1, 0, 0, 0, 0)]
def am_q115 : List (Option am_I) := [some (.aload_n 0, 1, 0, 0, 0, 0), some (.iload_n 1, 1, 0, 0, 0, 0), some (.putfield 126, 3, 10, 21, 987, 0), none, none, some (.aload_n 0, 1, 0, 0, 0, 0), some (.iload_n 2, 1, 0, 0, 0, 0), some (.putfield 129, 3, 10, 22, 988, 0), none, none, some (.aload_n 0, 1, 0, 0, 0, 0), some (.invokevirtual 165, 3, 99, 1, 1185, 0), none, none, some (.istore_n 3, 1, 0, 0, 0, 0), some (.aload_n 0, 1, 0, 0, 0, 0), some (.getfield 123, 3, 10, 25, 991, 0), none, none, some (.ifCond .ne 21, 3, 40, 0, 0, 0), none, none, some (.iload_n 3, 1, 0, 0, 0, 0), some (.iconst 2, 1, 0, 0, 0, 0), some (.if_icmp .lt 10, 3, 34, 0, 0, 0), none, none, some (.iload_n 3, 1, 0, 0, 0, 0), some (.iload_n 2, 1, 0, 0, 0, 0), some (.iload_n 1, 1, 0, 0, 0, 0), some (.isub, 1, 0, 0, 0, 0), some (.if_icmp .le 9, 3, 40, 0, 0, 0), none, none, some (.aload_n 0, 1, 0, 0, 0, 0), some (.iconst 5, 1, 0, 0, 0, 0), some (.iload_n 1, 1, 0, 0, 0, 0), some (.invokevirtual 132, 3, 96, 3, 1157, 0), none, none, some (.aload_n 0, 1, 0, 0, 0, 0), some (.aload_n 0, 1, 0, 0, 0, 0), some (.getfield 126, 3, 10, 21, 987, 0), none, none, some (.putfield 250, 3, 10, 57, 1023, 0), none, none, some (.aload_n 0, 1, 0, 0, 0, 0), some (.aload_n 0, 1, 0, 0, 0, 0), some (.getfield 123, 3, 10, 25, 991, 0), none, none, some (.ifCond .ne 11, 3, 64, 0, 0, 0), none, none, some (.aload_n 0, 1, 0, 0, 0, 0), some (.invokevirtual 165, 3, 99, 1, 1185, 0), none, none, some (.i2l, 1, 0, 0, 0, 0), some (.goto 4, 3, 65, 0, 0, 0), none, none, some (.lconst 0, 1, 0, 0, 0, 0), some (.putfield 236, 3, 10, 56, 1022, 0), none, none, some (.aload_n 0, 1, 0, 0, 0, 0), some (.getfield 123, 3, 10, 25, 991, 0), none, none, some (.ifCond .ne 22, 3, 94, 0, 0, 0), none, none, some (.aload_n 0, 1, 0, 0, 0, 0), some (.getfield 126, 3, 10, 21, 987, 0), none, none, some (.iload_n 1, 1, 0, 0, 0, 0), some (.iload_n 3, 1, 0, 0, 0, 0), some (.iadd, 1, 0, 0, 0, 0), some (.if_icmp .le 12, 3, 94, 0, 0, 0), none, none, some (.aload_n 0, 1, 0, 0, 0, 0), some (.iconst 2, 1, 0, 0, 0, 0), some (.aload_n 0, 1, 0, 0, 0, 0), some (.getfield 250, 3, 10, 57, 1023, 0), none, none, some (.invokevirtual 132, 3, 96, 3, 1157, 0), none, none, some (.aload_n 0, 1, 0, 0, 0, 0), some (.iload_n 1, 1, 0, 0, 0, 0), some (.iload_n 3, 1, 0, 0, 0, 0), some (.iadd, 1, 0, 0, 0, 0), some (.putfield 129, 3, 10, 22, 988, 0), none, none, some (.aload_n 0, 1, 0, 0, 0, 0), some (.getfield 123, 3, 10, 25, 991, 0), none, none, some (.ifCond .ne 9, 3, 114, 0, 0, 0), none, none, some (.iload_n 1, 1, 0, 0, 0, 0), some (.iload_n 3, 1, 0, 0, 0, 0), some (.iadd, 1, 0, 0, 0, 0), some (.goto 4, 3, 115, 0, 0, 0), none, none, some (.iload_n 2, 1, 0, 0, 0, 0), some (.ireturn, 1, 0, 0, 0, 0)]
def am_q116 : List (Option am_I) := [some (.aload_n 0, 1, 0, 0, 0, 0), some (.iload_n 1, 1, 0, 0, 0, 0), some (.iload_n 2, 1, 0, 0, 0, 0), some (.invokevirtual 232, 3, 115, 3, 1181, 0), none, none, some (.istore_n 3, 1, 0, 0, 0, 0), some (.aload_n 0, 1, 0, 0, 0, 0), some (.getfield 123, 3, 10, 25, 991, 0), none, none, some (.ifCond .ne 21, 3, 32, 0, 0, 0), none, none, some (.aload_n 0, 1, 0, 0, 0, 0), some (.getfield 236, 3, 10, 56, 1022, 0), none, none, some (.lconst 0, 1, 0, 0, 0, 0), some (.lcmp, 1, 0, 0, 0, 0), some (.ifCond .eq 12, 3, 32, 0, 0, 0), none, none, some (.aload_n 0, 1, 0, 0, 0, 0), some (.iconst 3, 1, 0, 0, 0, 0), some (.aload_n 0, 1, 0, 0, 0, 0), some (.getfield 250, 3, 10, 57, 1023, 0), none, none, some (.invokevirtual 132, 3, 96, 3, 1157, 0), none, none, some (.aload_n 0, 1, 0, 0, 0, 0), some (.getfield 126, 3, 10, 21, 987, 0), none, none, some (.istore 4, 2, 0, 0, 0, 0), none, some (.aload_n 0, 1, 0, 0, 0, 0), some (.getfield 123, 3, 10, 25, 991, 0), none, none, some (.ifCond .ne 10, 3, 52, 0, 0, 0), none, none, some (.aload_n 0, 1, 0, 0, 0, 0), some (.invokevirtual 165, 3, 99, 1, 1185, 0), none, none, some (.goto 4, 3, 53, 0, 0, 0), none, none, some (.iconst 0, 1, 0, 0, 0, 0), some (.istore 5, 2, 0, 0, 0, 0), none, some (.aload_n 0, 1, 0, 0, 0, 0), some (.getfield 123, 3, 10, 25, 991, 0), none, none, some (.ifCond .ne 17, 3, 76, 0, 0, 0), none, none, some (.iload 5, 2, 0, 0, 0, 0), none, some (.bipush 10, 2, 0, 0, 0, 0), none, some (.if_icmp .le 10, 3, 76, 0, 0, 0), none, none, some (.aload_n 0, 1, 0, 0, 0, 0), some (.iconst 4, 1, 0, 0, 0, 0), some (.iload 4, 2, 0, 0, 0, 0), none, some (.invokevirtual 132, 3, 96, 3, 1157, 0), none, none, some (.iconst 0, 1, 0, 0, 0, 0), some (.istore 6, 2, 0, 0, 0, 0), none, some (.iload 6, 2, 0, 0, 0, 0), none, some (.iload 5, 2, 0, 0, 0, 0), none, some (.if_icmp .ge 20, 3, 103, 0, 0, 0), none, none, some (.aload_n 0, 1, 0, 0, 0, 0), some (.getfield 123, 3, 10, 25, 991, 0), none, none, some (.ifCond .ne 13, 3, 103, 0, 0, 0), none, none, some (.aload_n 0, 1, 0, 0, 0, 0), some (.invokevirtual 253, 3, 117, 1, 1194, 0), none, none, some (.iinc 6 1, 3, 0, 0, 0, 0), none, none, some (.goto (-21), 3, 79, 0, 0, 0), none, none, some (.aload_n 0, 1, 0, 0, 0, 0), some (.getfield 123, 3, 10, 25, 991, 0), none, none, some (.ifCond .ne 20, 3, 127, 0, 0, 0), none, none, some (.aload_n 0, 1, 0, 0, 0, 0), some (.getfield 126, 3, 10, 21, 987, 0), none, none, some (.iload_n 3, 1, 0, 0, 0, 0), some (.if_icmp .ge 12, 3, 127, 0, 0, 0), none, none, some (.aload_n 0, 1, 0, 0, 0, 0), some (.iconst 5, 1, 0, 0, 0, 0), some (.aload_n 0, 1, 0, 0, 0, 0), some (.getfield 126, 3, 10, 21, 987, 0), none, none, some (.invokevirtual 132, 3, 96, 3, 1157, 0), none, none, some (.return_, 1, 0, 0, 0, 0)]
def am_q117 : List (Option am_I) := [some (.bipush 10, 2, 0, 0, 0, 0), none, some (.aload_n 0, 1, 0, 0, 0, 0), some (.getfield 149, 3, 10, 20, 986, 0), none, none, some (.imul, 1, 0, 0, 0, 0), some (.aload_n 0, 1, 0, 0, 0, 0), some (.getfield 34, 3, 10, 11, 977, 0), none, none, some (.aload_n 0, 1, 0, 0, 0, 0), some (.getfield 149, 3, 10, 20, 986, 0), none, none, some (.iaload, 1, 0, 0, 0, 0), some (.iadd, 1, 0, 0, 0, 0), some (.istore_n 1, 1, 0, 0, 0, 0), some (.aload_n 0, 1, 0, 0, 0, 0), some (.getfield 126, 3, 10, 21, 987, 0), none, none, some (.istore_n 2, 1, 0, 0, 0, 0), some (.aload_n 0, 1, 0, 0, 0, 0), some (.invokevirtual 165, 3, 99, 1, 1185, 0), none, none, some (.i2l, 1, 0, 0, 0, 0), some (.lstore_n 3, 1, 0, 0, 0, 0), some (.aload_n 0, 1, 0, 0, 0, 0), some (.getfield 123, 3, 10, 25, 991, 0), none, none, some (.ifCond .ne 26, 3, 59, 0, 0, 0), none, none, some (.lload_n 3, 1, 0, 0, 0, 0), some (.ldc2_w 256, 3, 0, 0, 1198, 16), none, none, some (.lcmp, 1, 0, 0, 0, 0), some (.ifCond .lt 12, 3, 53, 0, 0, 0), none, none, some (.aload_n 0, 1, 0, 0, 0, 0), some (.lload_n 3, 1, 0, 0, 0, 0), some (.iconst (-1), 1, 0, 0, 0, 0), some (.invokevirtual 179, 3, 102, 3, 1199, 0), none, none, some (.ifCond .lt 9, 3, 59, 0, 0, 0), none, none, some (.aload_n 0, 1, 0, 0, 0, 0), some (.iconst 4, 1, 0, 0, 0, 0), some (.iload_n 2, 1, 0, 0, 0, 0), some (.invokevirtual 132, 3, 96, 3, 1157, 0), none, none, some (.aload_n 0, 1, 0, 0, 0, 0), some (.getfield 126, 3, 10, 21, 987, 0), none, none, some (.istore_n 2, 1, 0, 0, 0, 0), some (.aload_n 0, 1, 0, 0, 0, 0), some (.invokevirtual 193, 3, 97, 1, 1203, 0), none, none, some (.istore 5, 2, 0, 0, 0, 0), none, some (.aload_n 0, 1, 0, 0, 0, 0), some (.getfield 123, 3, 10, 25, 991, 0), none, none, some (.ifCond .ne 23, 3, 97, 0, 0, 0), none, none, some (.iload 5, 2, 0, 0, 0, 0), none, some (.bipush 65, 2, 0, 0, 0, 0), none, some (.if_icmp .lt 10, 3, 91, 0, 0, 0), none, none, some (.iload 5, 2, 0, 0, 0, 0), none, some (.bipush 90, 2, 0, 0, 0, 0), none, some (.if_icmp .le 9, 3, 97, 0, 0, 0), none, none, some (.aload_n 0, 1, 0, 0, 0, 0), some (.iconst 4, 1, 0, 0, 0, 0), some (.iload_n 2, 1, 0, 0, 0, 0), some (.invokevirtual 132, 3, 96, 3, 1157, 0), none, none, some (.aload_n 0, 1, 0, 0, 0, 0), some (.getfield 126, 3, 10, 21, 987, 0), none, none, some (.istore_n 2, 1, 0, 0, 0, 0), some (.aload_n 0, 1, 0, 0, 0, 0), some (.invokevirtual 193, 3, 97, 1, 1203, 0), none, none, some (.istore 6, 2, 0, 0, 0, 0), none, some (.aload_n 0, 1, 0, 0, 0, 0), some (.getfield 123, 3, 10, 25, 991, 0), none, none, some (.ifCond .ne 15, 3, 127, 0, 0, 0), none, none, some (.iload 6, 2, 0, 0, 0, 0), none, some (.iconst 1, 1, 0, 0, 0, 0), some (.if_icmp .le 9, 3, 127, 0, 0, 0), none, none, some (.aload_n 0, 1, 0, 0, 0, 0), some (.iconst 4, 1, 0, 0, 0, 0), some (.iload_n 2, 1, 0, 0, 0, 0), some (.invokevirtual 132, 3, 96, 3, 1157, 0), none, none, some (.aload_n 0, 1, 0, 0, 0, 0), some (.getfield 126, 3, 10, 21, 987, 0), none, none, some (.istore_n 2, 1, 0, 0, 0, 0), some (.aload_n 0, 1, 0, 0, 0, 0), some (.invokevirtual 165, 3, 99, 1, 1185, 0), none, none, some (.istore 7, 2, 0, 0, 0, 0), none, some (.aload_n 0, 1, 0, 0, 0, 0), some (.getfield 123, 3, 10, 25, 991, 0), none, none, some (.ifCond .ne 16, 3, 158, 0, 0, 0), none, none, some (.iload 7, 2, 0, 0, 0, 0), none, some (.bipush 8, 2, 0, 0, 0, 0), none, some (.if_icmp .le 9, 3, 158, 0, 0, 0), none, none, some (.aload_n 0, 1, 0, 0, 0, 0), some (.iconst 4, 1, 0, 0, 0, 0), some (.iload_n 2, 1, 0, 0, 0, 0), some (.invokevirtual 132, 3, 96, 3, 1157, 0), none, none, some (.aload_n 0, 1, 0, 0, 0, 0), some (.getfield 47, 3, 10, 15, 981, 0), none, none, some (.iload_n 1, 1, 0, 0, 0, 0), some (.iconst 0, 1, 0, 0, 0, 0), some (.iastore, 1, 0, 0, 0, 0), some (.iconst 0, 1, 0, 0, 0, 0), some (.istore 8, 2, 0, 0, 0, 0), none, some (.iload 8, 2, 0, 0, 0, 0), none, some (.iload 7, 2, 0, 0, 0, 0), none, some (.if_icmp .ge 21, 3, 193, 0, 0, 0), none, none, some (.aload_n 0, 1, 0, 0, 0, 0), some (.getfield 123, 3, 10, 25, 991, 0), none, none, some (.ifCond .ne 14, 3, 193, 0, 0, 0), none, none, some (.aload_n 0, 1, 0, 0, 0, 0), some (.iload_n 1, 1, 0, 0, 0, 0), some (.invokevirtual 258, 3, 118, 2, 1207, 0), none, none, some (.iinc 8 1, 3, 0, 0, 0, 0), none, none, some (.goto (-22), 3, 168, 0, 0, 0), none, none, some (.aload_n 0, 1, 0, 0, 0, 0), some (.getfield 123, 3, 10, 25, 991, 0), none, none, some (.ifCond .eq 4, 3, 201, 0, 0, 0), none, none, some (.return_, 1, 0, 0, 0, 0), some (.aload_n 0, 1, 0, 0, 0, 0), some (.getfield 37, 3, 10, 12, 978, 0), none, none, some (.iload_n 1, 1, 0, 0, 0, 0), some (.lload_n 3, 1, 0, 0, 0, 0), some (.lastore, 1, 0, 0, 0, 0), some (.aload_n 0, 1, 0, 0, 0, 0), some (.getfield 41, 3, 10, 13, 979, 0), none, none, some (.iload_n 1, 1, 0, 0, 0, 0), some (.iload 5, 2, 0, 0, 0, 0), none, some (.iastore, 1, 0, 0, 0, 0), some (.aload_n 0, 1, 0, 0, 0, 0), some (.getfield 44, 3, 10, 14, 980, 0), none, none, some (.iload_n 1, 1, 0, 0, 0, 0), some (.iload 6, 2, 0, 0, 0, 0), none, some (.iastore, 1, 0, 0, 0, 0), some (.aload_n 0, 1, 0, 0, 0, 0), some (.getfield 34, 3, 10, 11, 977, 0), none, none, some (.aload_n 0, 1, 0, 0, 0, 0), some (.getfield 149, 3, 10, 20, 986, 0), none, none, some (.dup2, 1, 0, 0, 0, 0), some (.iaload, 1, 0, 0, 0, 0), some (.iconst 1, 1, 0, 0, 0, 0), some (.iadd, 1, 0, 0, 0, 0), some (.iastore, 1, 0, 0, 0, 0), some (.return_, 1, 0, 0, 0, 0)]
def am_q118 : List (Option am_I) := [some (.aload_n 0, 1, 0, 0, 0, 0), some (.getfield 126, 3, 10, 21, 987, 0), none, none, some (.istore_n 2, 1, 0, 0, 0, 0), some (.aload_n 0, 1, 0, 0, 0, 0), some (.invokevirtual 193, 3, 97, 1, 1203, 0), none, none, some (.istore_n 3, 1, 0, 0, 0, 0), some (.aload_n 0, 1, 0, 0, 0, 0), some (.getfield 123, 3, 10, 25, 991, 0), none, none, some (.ifCond .ne 30, 3, 44, 0, 0, 0), none, none, some (.iload_n 3, 1, 0, 0, 0, 0), some (.bipush 97, 2, 0, 0, 0, 0), none, some (.if_icmp .lt 18, 3, 38, 0, 0, 0), none, none, some (.iload_n 3, 1, 0, 0, 0, 0), some (.bipush 122, 2, 0, 0, 0, 0), none, some (.if_icmp .gt 12, 3, 38, 0, 0, 0), none, none, some (.aload_n 0, 1, 0, 0, 0, 0), some (.iload_n 1, 1, 0, 0, 0, 0), some (.iload_n 3, 1, 0, 0, 0, 0), some (.invokevirtual 261, 3, 103, 3, 1211, 0), none, none, some (.ifCond .lt 9, 3, 44, 0, 0, 0), none, none, some (.aload_n 0, 1, 0, 0, 0, 0), some (.iconst 4, 1, 0, 0, 0, 0), some (.iload_n 2, 1, 0, 0, 0, 0), some (.invokevirtual 132, 3, 96, 3, 1157, 0), none, none, some (.aload_n 0, 1, 0, 0, 0, 0), some (.getfield 123, 3, 10, 25, 991, 0), none, none, some (.ifCond .ne 11, 3, 59, 0, 0, 0), none, none, some (.aload_n 0, 1, 0, 0, 0, 0), some (.invokevirtual 165, 3, 99, 1, 1185, 0), none, none, some (.i2l, 1, 0, 0, 0, 0), some (.goto 4, 3, 60, 0, 0, 0), none, none, some (.lconst 0, 1, 0, 0, 0, 0), some (.lstore 4, 2, 0, 0, 0, 0), none, some (.aload_n 0, 1, 0, 0, 0, 0), some (.getfield 126, 3, 10, 21, 987, 0), none, none, some (.istore_n 2, 1, 0, 0, 0, 0), some (.aload_n 0, 1, 0, 0, 0, 0), some (.getfield 123, 3, 10, 25, 991, 0), none, none, some (.ifCond .ne 10, 3, 81, 0, 0, 0), none, none, some (.aload_n 0, 1, 0, 0, 0, 0), some (.invokevirtual 193, 3, 97, 1, 1203, 0), none, none, some (.goto 4, 3, 82, 0, 0, 0), none, none, some (.iconst 0, 1, 0, 0, 0, 0), some (.istore 6, 2, 0, 0, 0, 0), none, some (.aload_n 0, 1, 0, 0, 0, 0), some (.getfield 123, 3, 10, 25, 991, 0), none, none, some (.ifCond .ne 15, 3, 103, 0, 0, 0), none, none, some (.iload 6, 2, 0, 0, 0, 0), none, some (.iconst 3, 1, 0, 0, 0, 0), some (.if_icmp .le 9, 3, 103, 0, 0, 0), none, none, some (.aload_n 0, 1, 0, 0, 0, 0), some (.iconst 4, 1, 0, 0, 0, 0), some (.iload_n 2, 1, 0, 0, 0, 0), some (.invokevirtual 132, 3, 96, 3, 1157, 0), none, none, some (.aload_n 0, 1, 0, 0, 0, 0), some (.getfield 123, 3, 10, 25, 991, 0), none, none, some (.ifCond .eq 4, 3, 111, 0, 0, 0), none, none, some (.return_, 1, 0, 0, 0, 0), some (.bipush 8, 2, 0, 0, 0, 0), none, some (.iload_n 1, 1, 0, 0, 0, 0), some (.imul, 1, 0, 0, 0, 0), some (.aload_n 0, 1, 0, 0, 0, 0), some (.getfield 47, 3, 10, 15, 981, 0), none, none, some (.iload_n 1, 1, 0, 0, 0, 0), some (.iaload, 1, 0, 0, 0, 0), some (.iadd, 1, 0, 0, 0, 0), some (.istore 7, 2, 0, 0, 0, 0), none, some (.aload_n 0, 1, 0, 0, 0, 0), some (.getfield 50, 3, 10, 16, 982, 0), none, none, some (.iload 7, 2, 0, 0, 0, 0), none, some (.iload_n 3, 1, 0, 0, 0, 0), some (.iastore, 1, 0, 0, 0, 0), some (.aload_n 0, 1, 0, 0, 0, 0), some (.getfield 53, 3, 10, 17, 983, 0), none, none, some (.iload 7, 2, 0, 0, 0, 0), none, some (.lload 4, 2, 0, 0, 0, 0), none, some (.lastore, 1, 0, 0, 0, 0), some (.aload_n 0, 1, 0, 0, 0, 0), some (.getfield 56, 3, 10, 18, 984, 0), none, none, some (.iload 7, 2, 0, 0, 0, 0), none, some (.iload 6, 2, 0, 0, 0, 0), none, some (.iastore, 1, 0, 0, 0, 0), some (.aload_n 0, 1, 0, 0, 0, 0), some (.getfield 47, 3, 10, 15, 981, 0), none, none, some (.iload_n 1, 1, 0, 0, 0, 0), some (.dup2, 1, 0, 0, 0, 0), some (.iaload, 1, 0, 0, 0, 0), some (.iconst 1, 1, 0, 0, 0, 0), some (.iadd, 1, 0, 0, 0, 0), some (.iastore, 1, 0, 0, 0, 0), some (.return_, 1, 0, 0, 0, 0)]
def am_q119 : List (Option am_I) := [some (.iconst 1, 1, 0, 0, 0, 0), some (.istore_n 2, 1, 0, 0, 0, 0), some (.iconst 0, 1, 0, 0, 0, 0), some (.istore_n 3, 1, 0, 0, 0, 0), some (.iload_n 3, 1, 0, 0, 0, 0), some (.aload_n 0, 1, 0, 0, 0, 0), some (.getfield 34, 3, 10, 11, 977, 0), none, none, some (.aload_n 0, 1, 0, 0, 0, 0), some (.getfield 149, 3, 10, 20, 986, 0), none, none, some (.iaload, 1, 0, 0, 0, 0), some (.if_icmp .ge 121, 3, 135, 0, 0, 0), none, none, some (.bipush 10, 2, 0, 0, 0, 0), none, some (.aload_n 0, 1, 0, 0, 0, 0), some (.getfield 149, 3, 10, 20, 986, 0), none, none, some (.imul, 1, 0, 0, 0, 0), some (.iload_n 3, 1, 0, 0, 0, 0), some (.iadd, 1, 0, 0, 0, 0), some (.istore 4, 2, 0, 0, 0, 0), none, some (.iconst 0, 1, 0, 0, 0, 0), some (.istore 5, 2, 0, 0, 0, 0), none, some (.iload 5, 2, 0, 0, 0, 0), none, some (.aload_n 0, 1, 0, 0, 0, 0), some (.getfield 47, 3, 10, 15, 981, 0), none, none, some (.iload 4, 2, 0, 0, 0, 0), none, some (.iaload, 1, 0, 0, 0, 0), some (.if_icmp .ge 89, 3, 129, 0, 0, 0), none, none, some (.aload_n 0, 1, 0, 0, 0, 0), some (.getfield 53, 3, 10, 17, 983, 0), none, none, some (.bipush 8, 2, 0, 0, 0, 0), none, some (.iload 4, 2, 0, 0, 0, 0), none, some (.imul, 1, 0, 0, 0, 0), some (.iload 5, 2, 0, 0, 0, 0), none, some (.iadd, 1, 0, 0, 0, 0), some (.laload, 1, 0, 0, 0, 0), some (.lstore 6, 2, 0, 0, 0, 0), none, some (.lload 6, 2, 0, 0, 0, 0), none, some (.ldc2_w 173, 3, 0, 0, 1219, 10), none, none, some (.lcmp, 1, 0, 0, 0, 0), some (.ifCond .le 13, 3, 77, 0, 0, 0), none, none, some (.aload_n 0, 1, 0, 0, 0, 0), some (.lload 6, 2, 0, 0, 0, 0), none, some (.iconst 0, 1, 0, 0, 0, 0), some (.invokevirtual 179, 3, 102, 3, 1199, 0), none, none, some (.goto 4, 3, 78, 0, 0, 0), none, none, some (.iconst (-1), 1, 0, 0, 0, 0), some (.istore 8, 2, 0, 0, 0, 0), none, some (.iload_n 2, 1, 0, 0, 0, 0), some (.ifCond .eq 40, 3, 121, 0, 0, 0), none, none, some (.lload 6, 2, 0, 0, 0, 0), none, some (.ldc2_w 264, 3, 0, 0, 1220, 2), none, none, some (.lcmp, 1, 0, 0, 0, 0), some (.ifCond .lt 12, 3, 102, 0, 0, 0), none, none, some (.lload 6, 2, 0, 0, 0, 0), none, some (.ldc2_w 173, 3, 0, 0, 1219, 10), none, none, some (.lcmp, 1, 0, 0, 0, 0), some (.ifCond .le 18, 3, 117, 0, 0, 0), none, none, some (.iload 8, 2, 0, 0, 0, 0), none, some (.ifCond .lt 17, 3, 121, 0, 0, 0), none, none, some (.aload_n 0, 1, 0, 0, 0, 0), some (.getfield 47, 3, 10, 15, 981, 0), none, none, some (.iload 8, 2, 0, 0, 0, 0), none, some (.iaload, 1, 0, 0, 0, 0), some (.ifCond .le 7, 3, 121, 0, 0, 0), none, none, some (.iconst 1, 1, 0, 0, 0, 0), some (.goto 4, 3, 122, 0, 0, 0), none, none, some (.iconst 0, 1, 0, 0, 0, 0), some (.istore_n 2, 1, 0, 0, 0, 0), some (.iinc 5 1, 3, 0, 0, 0, 0), none, none, some (.goto (-95), 3, 31, 0, 0, 0), none, none, some (.iinc 3 1, 3, 0, 0, 0, 0), none, none, some (.goto (-128), 3, 4, 0, 0, 0), none, none, some (.iconst 0, 1, 0, 0, 0, 0), some (.istore_n 3, 1, 0, 0, 0, 0), some (.iload_n 3, 1, 0, 0, 0, 0), some (.aload_n 0, 1, 0, 0, 0, 0), some (.getfield 34, 3, 10, 11, 977, 0), none, none, some (.aload_n 0, 1, 0, 0, 0, 0), some (.getfield 149, 3, 10, 20, 986, 0), none, none, some (.iaload, 1, 0, 0, 0, 0), some (.if_icmp .ge 27, 3, 174, 0, 0, 0), none, none, some (.iload_n 2, 1, 0, 0, 0, 0), some (.ifCond .eq 23, 3, 174, 0, 0, 0), none, none, some (.aload_n 0, 1, 0, 0, 0, 0), some (.iload_n 3, 1, 0, 0, 0, 0), some (.invokevirtual 266, 3, 120, 2, 1221, 0), none, none, some (.ifCond .ne 7, 3, 166, 0, 0, 0), none, none, some (.iconst 1, 1, 0, 0, 0, 0), some (.goto 4, 3, 167, 0, 0, 0), none, none, some (.iconst 0, 1, 0, 0, 0, 0), some (.istore_n 2, 1, 0, 0, 0, 0), some (.iinc 3 1, 3, 0, 0, 0, 0), none, none, some (.goto (-34), 3, 137, 0, 0, 0), none, none, some (.iload_n 2, 1, 0, 0, 0, 0), some (.ifCond .ne 9, 3, 184, 0, 0, 0), none, none, some (.aload_n 0, 1, 0, 0, 0, 0), some (.iconst 4, 1, 0, 0, 0, 0), some (.iload_n 1, 1, 0, 0, 0, 0), some (.invokevirtual 132, 3, 96, 3, 1157, 0), none, none, some (.return_, 1, 0, 0, 0, 0)]
def am_q120 : List (Option am_I) := [some (.iconst 0, 1, 0, 0, 0, 0), some (.istore_n 2, 1, 0, 0, 0, 0), some (.iconst 1, 1, 0, 0, 0, 0), some (.iload_n 1, 1, 0, 0, 0, 0), some (.ishl, 1, 0, 0, 0, 0), some (.istore_n 3, 1, 0, 0, 0, 0), some (.iconst 0, 1, 0, 0, 0, 0), some (.istore 4, 2, 0, 0, 0, 0), none, some (.iload 4, 2, 0, 0, 0, 0), none, some (.bipush 10, 2, 0, 0, 0, 0), none, some (.if_icmp .gt 140, 3, 153, 0, 0, 0), none, none, some (.iconst 0, 1, 0, 0, 0, 0), some (.istore 5, 2, 0, 0, 0, 0), none, some (.iload 5, 2, 0, 0, 0, 0), none, some (.aload_n 0, 1, 0, 0, 0, 0), some (.getfield 34, 3, 10, 11, 977, 0), none, none, some (.aload_n 0, 1, 0, 0, 0, 0), some (.getfield 149, 3, 10, 20, 986, 0), none, none, some (.iaload, 1, 0, 0, 0, 0), some (.if_icmp .ge 113, 3, 143, 0, 0, 0), none, none, some (.bipush 10, 2, 0, 0, 0, 0), none, some (.aload_n 0, 1, 0, 0, 0, 0), some (.getfield 149, 3, 10, 20, 986, 0), none, none, some (.imul, 1, 0, 0, 0, 0), some (.iload 5, 2, 0, 0, 0, 0), none, some (.iadd, 1, 0, 0, 0, 0), some (.istore 6, 2, 0, 0, 0, 0), none, some (.iconst 0, 1, 0, 0, 0, 0), some (.istore 7, 2, 0, 0, 0, 0), none, some (.iload 7, 2, 0, 0, 0, 0), none, some (.aload_n 0, 1, 0, 0, 0, 0), some (.getfield 47, 3, 10, 15, 981, 0), none, none, some (.iload 6, 2, 0, 0, 0, 0), none, some (.iaload, 1, 0, 0, 0, 0), some (.if_icmp .ge 80, 3, 137, 0, 0, 0), none, none, some (.iload_n 3, 1, 0, 0, 0, 0), some (.iload 5, 2, 0, 0, 0, 0), none, some (.ishr, 1, 0, 0, 0, 0), some (.iconst 1, 1, 0, 0, 0, 0), some (.iand, 1, 0, 0, 0, 0), some (.iconst 1, 1, 0, 0, 0, 0), some (.if_icmp .ne 70, 3, 137, 0, 0, 0), none, none, some (.bipush 8, 2, 0, 0, 0, 0), none, some (.iload 6, 2, 0, 0, 0, 0), none, some (.imul, 1, 0, 0, 0, 0), some (.iload 7, 2, 0, 0, 0, 0), none, some (.iadd, 1, 0, 0, 0, 0), some (.istore 8, 2, 0, 0, 0, 0), none, some (.aload_n 0, 1, 0, 0, 0, 0), some (.getfield 53, 3, 10, 17, 983, 0), none, none, some (.iload 8, 2, 0, 0, 0, 0), none, some (.laload, 1, 0, 0, 0, 0), some (.ldc2_w 173, 3, 0, 0, 1219, 10), none, none, some (.lcmp, 1, 0, 0, 0, 0), some (.ifCond .le 40, 3, 131, 0, 0, 0), none, none, some (.aload_n 0, 1, 0, 0, 0, 0), some (.getfield 56, 3, 10, 18, 984, 0), none, none, some (.iload 8, 2, 0, 0, 0, 0), none, some (.iaload, 1, 0, 0, 0, 0), some (.iconst 1, 1, 0, 0, 0, 0), some (.iand, 1, 0, 0, 0, 0), some (.ifCond .ne 28, 3, 131, 0, 0, 0), none, none, some (.iload_n 2, 1, 0, 0, 0, 0), some (.iconst 1, 1, 0, 0, 0, 0), some (.aload_n 0, 1, 0, 0, 0, 0), some (.aload_n 0, 1, 0, 0, 0, 0), some (.getfield 53, 3, 10, 17, 983, 0), none, none, some (.iload 8, 2, 0, 0, 0, 0), none, some (.laload, 1, 0, 0, 0, 0), some (.iconst 0, 1, 0, 0, 0, 0), some (.invokevirtual 179, 3, 102, 3, 1199, 0), none, none, some (.bipush 10, 2, 0, 0, 0, 0), none, some (.aload_n 0, 1, 0, 0, 0, 0), some (.getfield 149, 3, 10, 20, 986, 0), none, none, some (.imul, 1, 0, 0, 0, 0), some (.isub, 1, 0, 0, 0, 0), some (.ishl, 1, 0, 0, 0, 0), some (.ior, 1, 0, 0, 0, 0), some (.istore_n 2, 1, 0, 0, 0, 0), some (.iinc 7 1, 3, 0, 0, 0, 0), none, none, some (.goto (-86), 3, 48, 0, 0, 0), none, none, some (.iinc 5 1, 3, 0, 0, 0, 0), none, none, some (.goto (-121), 3, 19, 0, 0, 0), none, none, some (.iload_n 3, 1, 0, 0, 0, 0), some (.iload_n 2, 1, 0, 0, 0, 0), some (.ior, 1, 0, 0, 0, 0), some (.istore_n 3, 1, 0, 0, 0, 0), some (.iinc 4 1, 3, 0, 0, 0, 0), none, none, some (.goto (-141), 3, 9, 0, 0, 0), none, none, some (.iload_n 2, 1, 0, 0, 0, 0), some (.iload_n 1, 1, 0, 0, 0, 0), some (.ishr, 1, 0, 0, 0, 0), some (.iconst 1, 1, 0, 0, 0, 0), some (.iand, 1, 0, 0, 0, 0), some (.iconst 1, 1, 0, 0, 0, 0), some (.if_icmp .ne 7, 3, 166, 0, 0, 0), none, none, some (.iconst 1, 1, 0, 0, 0, 0), some (.goto 4, 3, 167, 0, 0, 0), none, none, some (.iconst 0, 1, 0, 0, 0, 0), some (.ireturn, 1, 0, 0, 0, 0)]
def am_q121 : List (Option am_I) := [some (.iload_n 1, 1, 0, 0, 0, 0), some (.istore_n 2, 1, 0, 0, 0, 0), some (.aload_n 0, 1, 0, 0, 0, 0), some (.invokevirtual 165, 3, 99, 1, 1185, 0), none, none, some (.pop, 1, 0, 0, 0, 0), some (.aload_n 0, 1, 0, 0, 0, 0), some (.getfield 123, 3, 10, 25, 991, 0), none, none, some (.ifCond .ne 10, 3, 21, 0, 0, 0), none, none, some (.aload_n 0, 1, 0, 0, 0, 0), some (.invokevirtual 165, 3, 99, 1, 1185, 0), none, none, some (.goto 4, 3, 22, 0, 0, 0), none, none, some (.iconst 0, 1, 0, 0, 0, 0), some (.istore_n 3, 1, 0, 0, 0, 0), some (.iconst 0, 1, 0, 0, 0, 0), some (.istore 4, 2, 0, 0, 0, 0), none, some (.iload 4, 2, 0, 0, 0, 0), none, some (.iload_n 3, 1, 0, 0, 0, 0), some (.if_icmp .ge 156, 3, 185, 0, 0, 0), none, none, some (.aload_n 0, 1, 0, 0, 0, 0), some (.getfield 123, 3, 10, 25, 991, 0), none, none, some (.ifCond .ne 149, 3, 185, 0, 0, 0), none, none, some (.aload_n 0, 1, 0, 0, 0, 0), some (.getfield 126, 3, 10, 21, 987, 0), none, none, some (.istore 5, 2, 0, 0, 0, 0), none, some (.aload_n 0, 1, 0, 0, 0, 0), some (.invokevirtual 165, 3, 99, 1, 1185, 0), none, none, some (.i2l, 1, 0, 0, 0, 0), some (.lstore 6, 2, 0, 0, 0, 0), none, some (.aload_n 0, 1, 0, 0, 0, 0), some (.getfield 123, 3, 10, 25, 991, 0), none, none, some (.ifCond .ne 38, 3, 94, 0, 0, 0), none, none, some (.lload 6, 2, 0, 0, 0, 0), none, some (.ldc2_w 264, 3, 0, 0, 1220, 2), none, none, some (.lcmp, 1, 0, 0, 0, 0), some (.ifCond .lt 12, 3, 77, 0, 0, 0), none, none, some (.lload 6, 2, 0, 0, 0, 0), none, some (.ldc2_w 173, 3, 0, 0, 1219, 10), none, none, some (.lcmp, 1, 0, 0, 0, 0), some (.ifCond .le 20, 3, 94, 0, 0, 0), none, none, some (.aload_n 0, 1, 0, 0, 0, 0), some (.lload 6, 2, 0, 0, 0, 0), none, some (.iconst 0, 1, 0, 0, 0, 0), some (.invokevirtual 179, 3, 102, 3, 1199, 0), none, none, some (.ifCond .ge 10, 3, 94, 0, 0, 0), none, none, some (.aload_n 0, 1, 0, 0, 0, 0), some (.iconst 3, 1, 0, 0, 0, 0), some (.iload 5, 2, 0, 0, 0, 0), none, some (.invokevirtual 132, 3, 96, 3, 1157, 0), none, none, some (.aload_n 0, 1, 0, 0, 0, 0), some (.getfield 123, 3, 10, 25, 991, 0), none, none, some (.ifCond .ne 10, 3, 108, 0, 0, 0), none, none, some (.aload_n 0, 1, 0, 0, 0, 0), some (.invokevirtual 165, 3, 99, 1, 1185, 0), none, none, some (.goto 4, 3, 109, 0, 0, 0), none, none, some (.iconst 0, 1, 0, 0, 0, 0), some (.istore 8, 2, 0, 0, 0, 0), none, some (.iconst 0, 1, 0, 0, 0, 0), some (.istore 9, 2, 0, 0, 0, 0), none, some (.iload 9, 2, 0, 0, 0, 0), none, some (.iload 8, 2, 0, 0, 0, 0), none, some (.if_icmp .ge 61, 3, 179, 0, 0, 0), none, none, some (.aload_n 0, 1, 0, 0, 0, 0), some (.getfield 123, 3, 10, 25, 991, 0), none, none, some (.ifCond .ne 54, 3, 179, 0, 0, 0), none, none, some (.iload_n 2, 1, 0, 0, 0, 0), some (.bipush 40, 2, 0, 0, 0, 0), none, some (.if_icmp .ne 13, 3, 144, 0, 0, 0), none, none, some (.aload_n 0, 1, 0, 0, 0, 0), some (.bipush 8, 2, 0, 0, 0, 0), none, some (.aload_n 0, 1, 0, 0, 0, 0), some (.getfield 126, 3, 10, 21, 987, 0), none, none, some (.invokevirtual 132, 3, 96, 3, 1157, 0), none, none, some (.aload_n 0, 1, 0, 0, 0, 0), some (.getfield 123, 3, 10, 25, 991, 0), none, none, some (.ifCond .ne 8, 3, 156, 0, 0, 0), none, none, some (.aload_n 0, 1, 0, 0, 0, 0), some (.invokevirtual 140, 3, 98, 1, 1189, 0), none, none, some (.pop2, 1, 0, 0, 0, 0), some (.aload_n 0, 1, 0, 0, 0, 0), some (.getfield 123, 3, 10, 25, 991, 0), none, none, some (.ifCond .ne 10, 3, 170, 0, 0, 0), none, none, some (.aload_n 0, 1, 0, 0, 0, 0), some (.lload 6, 2, 0, 0, 0, 0), none, some (.iconst 0, 1, 0, 0, 0, 0), some (.invokevirtual 270, 3, 108, 3, 1229, 0), none, none, some (.iinc 2 1, 3, 0, 0, 0, 0), none, none, some (.iinc 9 1, 3, 0, 0, 0, 0), none, none, some (.goto (-62), 3, 114, 0, 0, 0), none, none, some (.iinc 4 1, 3, 0, 0, 0, 0), none, none, some (.goto (-156), 3, 26, 0, 0, 0), none, none, some (.iload_n 2, 1, 0, 0, 0, 0), some (.ireturn, 1, 0, 0, 0, 0)]
def am_q122 : List (Option am_I) := [some (.aload_n 0, 1, 0, 0, 0, 0), some (.lload_n 2, 1, 0, 0, 0, 0), some (.iconst 1, 1, 0, 0, 0, 0), some (.invokevirtual 179, 3, 102, 3, 1199, 0), none, none, some (.istore 4, 2, 0, 0, 0, 0), none, some (.iload 4, 2, 0, 0, 0, 0), none, some (.ifCond .ge 15, 3, 25, 0, 0, 0), none, none, some (.aload_n 0, 1, 0, 0, 0, 0), some (.iconst 3, 1, 0, 0, 0, 0), some (.aload_n 0, 1, 0, 0, 0, 0), some (.getfield 250, 3, 10, 57, 1023, 0), none, none, some (.invokevirtual 132, 3, 96, 3, 1157, 0), none, none, some (.goto 24, 3, 46, 0, 0, 0), none, none, some (.aload_n 0, 1, 0, 0, 0, 0), some (.getfield 25, 3, 10, 8, 974, 0), none, none, some (.aload_n 0, 1, 0, 0, 0, 0), some (.getfield 120, 3, 10, 19, 985, 0), none, none, some (.iaload, 1, 0, 0, 0, 0), some (.bipush 60, 2, 0, 0, 0, 0), none, some (.if_icmp .ne 10, 3, 46, 0, 0, 0), none, none, some (.aload_n 0, 1, 0, 0, 0, 0), some (.bipush 8, 2, 0, 0, 0, 0), none, some (.iload_n 1, 1, 0, 0, 0, 0), some (.invokevirtual 132, 3, 96, 3, 1157, 0), none, none, some (.aload_n 0, 1, 0, 0, 0, 0), some (.getfield 123, 3, 10, 25, 991, 0), none, none, some (.ifCond .eq 4, 3, 54, 0, 0, 0), none, none, some (.return_, 1, 0, 0, 0, 0), some (.aload_n 0, 1, 0, 0, 0, 0), some (.getfield 28, 3, 10, 9, 975, 0), none, none, some (.bipush 60, 2, 0, 0, 0, 0), none, some (.aload_n 0, 1, 0, 0, 0, 0), some (.getfield 120, 3, 10, 19, 985, 0), none, none, some (.imul, 1, 0, 0, 0, 0), some (.aload_n 0, 1, 0, 0, 0, 0), some (.getfield 25, 3, 10, 8, 974, 0), none, none, some (.aload_n 0, 1, 0, 0, 0, 0), some (.getfield 120, 3, 10, 19, 985, 0), none, none, some (.iaload, 1, 0, 0, 0, 0), some (.iadd, 1, 0, 0, 0, 0), some (.iload_n 1, 1, 0, 0, 0, 0), some (.iastore, 1, 0, 0, 0, 0), some (.aload_n 0, 1, 0, 0, 0, 0), some (.getfield 31, 3, 10, 10, 976, 0), none, none, some (.bipush 60, 2, 0, 0, 0, 0), none, some (.aload_n 0, 1, 0, 0, 0, 0), some (.getfield 120, 3, 10, 19, 985, 0), none, none, some (.imul, 1, 0, 0, 0, 0), some (.aload_n 0, 1, 0, 0, 0, 0), some (.getfield 25, 3, 10, 8, 974, 0), none, none, some (.aload_n 0, 1, 0, 0, 0, 0), some (.getfield 120, 3, 10, 19, 985, 0), none, none, some (.iaload, 1, 0, 0, 0, 0), some (.iadd, 1, 0, 0, 0, 0), some (.aload_n 0, 1, 0, 0, 0, 0), some (.getfield 149, 3, 10, 20, 986, 0), none, none, some (.iconst 4, 1, 0, 0, 0, 0), some (.aload_n 0, 1, 0, 0, 0, 0), some (.getfield 120, 3, 10, 19, 985, 0), none, none, some (.imul, 1, 0, 0, 0, 0), some (.isub, 1, 0, 0, 0, 0), some (.iastore, 1, 0, 0, 0, 0), some (.aload_n 0, 1, 0, 0, 0, 0), some (.getfield 25, 3, 10, 8, 974, 0), none, none, some (.aload_n 0, 1, 0, 0, 0, 0), some (.getfield 120, 3, 10, 19, 985, 0), none, none, some (.dup2, 1, 0, 0, 0, 0), some (.iaload, 1, 0, 0, 0, 0), some (.iconst 1, 1, 0, 0, 0, 0), some (.iadd, 1, 0, 0, 0, 0), some (.iastore, 1, 0, 0, 0, 0), some (.aload_n 0, 1, 0, 0, 0, 0), some (.invokevirtual 140, 3, 98, 1, 1189, 0), none, none, some (.pop2, 1, 0, 0, 0, 0), some (.aload_n 0, 1, 0, 0, 0, 0), some (.getfield 123, 3, 10, 25, 991, 0), none, none, some (.ifCond .eq 4, 3, 136, 0, 0, 0), none, none, some (.return_, 1, 0, 0, 0, 0), some (.aload_n 0, 1, 0, 0, 0, 0), some (.iconst 0, 1, 0, 0, 0, 0), some (.putfield 152, 3, 10, 29, 995, 0), none, none, some (.aload_n 0, 1, 0, 0, 0, 0), some (.invokevirtual 162, 3, 105, 1, 1237, 0), none, none, some (.aload_n 0, 1, 0, 0, 0, 0), some (.iconst (-1), 1, 0, 0, 0, 0), some (.iload 4, 2, 0, 0, 0, 0), none, some (.i2l, 1, 0, 0, 0, 0), some (.iconst 0, 1, 0, 0, 0, 0), some (.invokevirtual 169, 3, 104, 4, 1241, 0), none, none, some (.aload_n 0, 1, 0, 0, 0, 0), some (.invokevirtual 187, 3, 107, 1, 1259, 0), none, none, some (.return_, 1, 0, 0, 0, 0)]
def am_q123 : List (Option am_I) := [some (.iload_n 1, 1, 0, 0, 0, 0), some (.bipush 20, 2, 0, 0, 0, 0), none, some (.iadd, 1, 0, 0, 0, 0), some (.istore 4, 2, 0, 0, 0, 0), none, some (.iload 4, 2, 0, 0, 0, 0), none, some (.iload_n 2, 1, 0, 0, 0, 0), some (.if_icmp .ge 21, 3, 30, 0, 0, 0), none, none, some (.iload 4, 2, 0, 0, 0, 0), none, some (.iload_n 3, 1, 0, 0, 0, 0), some (.if_icmp .ge 15, 3, 30, 0, 0, 0), none, none, some (.aload_n 0, 1, 0, 0, 0, 0), some (.iload 4, 2, 0, 0, 0, 0), none, some (.iload_n 2, 1, 0, 0, 0, 0), some (.invokevirtual 232, 3, 115, 3, 1181, 0), none, none, some (.istore 4, 2, 0, 0, 0, 0), none, some (.goto (-21), 3, 6, 0, 0, 0), none, none, some (.iload 4, 2, 0, 0, 0, 0), none, some (.iload_n 3, 1, 0, 0, 0, 0), some (.if_icmp .ne 9, 3, 42, 0, 0, 0), none, none, some (.iload 4, 2, 0, 0, 0, 0), none, some (.iload_n 2, 1, 0, 0, 0, 0), some (.if_icmp .lt 5, 3, 44, 0, 0, 0), none, none, some (.iconst 0, 1, 0, 0, 0, 0), some (.ireturn, 1, 0, 0, 0, 0), some (.aload_n 0, 1, 0, 0, 0, 0), some (.iload 4, 2, 0, 0, 0, 0), none, some (.iload_n 2, 1, 0, 0, 0, 0), some (.invokevirtual 232, 3, 115, 3, 1181, 0), none, none, some (.pop, 1, 0, 0, 0, 0), some (.aload_n 0, 1, 0, 0, 0, 0), some (.getfield 236, 3, 10, 56, 1022, 0), none, none, some (.lconst 1, 1, 0, 0, 0, 0), some (.lcmp, 1, 0, 0, 0, 0), some (.ifCond .ne 7, 3, 65, 0, 0, 0), none, none, some (.iconst 1, 1, 0, 0, 0, 0), some (.goto 4, 3, 66, 0, 0, 0), none, none, some (.iconst 0, 1, 0, 0, 0, 0), some (.ireturn, 1, 0, 0, 0, 0)]
def am_q124 : List (Option am_I) := [some (.aload_n 0, 1, 0, 0, 0, 0), some (.iload_n 1, 1, 0, 0, 0, 0), some (.bipush 10, 2, 0, 0, 0, 0), none, some (.iadd, 1, 0, 0, 0, 0), some (.invokevirtual 146, 3, 100, 2, 1169, 0), none, none, some (.istore_n 3, 1, 0, 0, 0, 0), some (.iload_n 3, 1, 0, 0, 0, 0), some (.ifCond .ne 4, 3, 14, 0, 0, 0), none, none, some (.return_, 1, 0, 0, 0, 0), some (.iload_n 1, 1, 0, 0, 0, 0), some (.iload_n 3, 1, 0, 0, 0, 0), some (.iadd, 1, 0, 0, 0, 0), some (.istore 4, 2, 0, 0, 0, 0), none, some (.aload_n 0, 1, 0, 0, 0, 0), some (.iload_n 1, 1, 0, 0, 0, 0), some (.iload_n 2, 1, 0, 0, 0, 0), some (.iload 4, 2, 0, 0, 0, 0), none, some (.invokevirtual 273, 3, 123, 4, 1271, 0), none, none, some (.ifCond .ne 14, 3, 41, 0, 0, 0), none, none, some (.aload_n 0, 1, 0, 0, 0, 0), some (.bipush 7, 2, 0, 0, 0, 0), none, some (.iload_n 1, 1, 0, 0, 0, 0), some (.bipush 10, 2, 0, 0, 0, 0), none, some (.iadd, 1, 0, 0, 0, 0), some (.invokevirtual 132, 3, 96, 3, 1157, 0), none, none, some (.return_, 1, 0, 0, 0, 0), some (.iconst 1, 1, 0, 0, 0, 0), some (.istore 5, 2, 0, 0, 0, 0), none, some (.iload 5, 2, 0, 0, 0, 0), none, some (.ifCond .eq 88, 3, 134, 0, 0, 0), none, none, some (.aload_n 0, 1, 0, 0, 0, 0), some (.getfield 123, 3, 10, 25, 991, 0), none, none, some (.ifCond .ne 81, 3, 134, 0, 0, 0), none, none, some (.aload_n 0, 1, 0, 0, 0, 0), some (.iload 4, 2, 0, 0, 0, 0), none, some (.iload_n 2, 1, 0, 0, 0, 0), some (.invokevirtual 232, 3, 115, 3, 1181, 0), none, none, some (.pop, 1, 0, 0, 0, 0), some (.aload_n 0, 1, 0, 0, 0, 0), some (.getfield 126, 3, 10, 21, 987, 0), none, none, some (.istore 6, 2, 0, 0, 0, 0), none, some (.aload_n 0, 1, 0, 0, 0, 0), some (.invokevirtual 165, 3, 99, 1, 1185, 0), none, none, some (.istore 7, 2, 0, 0, 0, 0), none, some (.iload 7, 2, 0, 0, 0, 0), none, some (.ifCond .le 7, 3, 85, 0, 0, 0), none, none, some (.iconst 1, 1, 0, 0, 0, 0), some (.goto 4, 3, 86, 0, 0, 0), none, none, some (.iconst 0, 1, 0, 0, 0, 0), some (.istore 5, 2, 0, 0, 0, 0), none, some (.iload 5, 2, 0, 0, 0, 0), none, some (.ifCond .eq 34, 3, 124, 0, 0, 0), none, none, some (.iload 7, 2, 0, 0, 0, 0), none, some (.iload 4, 2, 0, 0, 0, 0), none, some (.iload_n 1, 1, 0, 0, 0, 0), some (.isub, 1, 0, 0, 0, 0), some (.if_icmp .gt 17, 3, 116, 0, 0, 0), none, none, some (.aload_n 0, 1, 0, 0, 0, 0), some (.iload_n 1, 1, 0, 0, 0, 0), some (.iload_n 2, 1, 0, 0, 0, 0), some (.iload 4, 2, 0, 0, 0, 0), none, some (.iload 7, 2, 0, 0, 0, 0), none, some (.isub, 1, 0, 0, 0, 0), some (.invokevirtual 273, 3, 123, 4, 1271, 0), none, none, some (.ifCond .ne 11, 3, 124, 0, 0, 0), none, none, some (.aload_n 0, 1, 0, 0, 0, 0), some (.bipush 7, 2, 0, 0, 0, 0), none, some (.iload 6, 2, 0, 0, 0, 0), none, some (.invokevirtual 132, 3, 96, 3, 1157, 0), none, none, some (.iload 4, 2, 0, 0, 0, 0), none, some (.iload 7, 2, 0, 0, 0, 0), none, some (.isub, 1, 0, 0, 0, 0), some (.istore 4, 2, 0, 0, 0, 0), none, some (.goto (-87), 3, 44, 0, 0, 0), none, none, some (.return_, 1, 0, 0, 0, 0)]
def am_q125 : List (Option am_I) := [some (.aload_n 0, 1, 0, 0, 0, 0), some (.iconst 0, 1, 0, 0, 0, 0), some (.putfield 114, 3, 10, 0, 966, 0), none, none, some (.iload_n 1, 1, 0, 0, 0, 0), some (.ifCond .ne 10, 3, 16, 0, 0, 0), none, none, some (.aload_n 0, 1, 0, 0, 0, 0), some (.getfield 207, 3, 10, 27, 993, 0), none, none, some (.goto 16, 3, 29, 0, 0, 0), none, none, some (.iload_n 1, 1, 0, 0, 0, 0), some (.iconst 1, 1, 0, 0, 0, 0), some (.if_icmp .ne 10, 3, 28, 0, 0, 0), none, none, some (.aload_n 0, 1, 0, 0, 0, 0), some (.getfield 63, 3, 10, 28, 994, 0), none, none, some (.goto 4, 3, 29, 0, 0, 0), none, none, some (.iconst (-1), 1, 0, 0, 0, 0), some (.ireturn, 1, 0, 0, 0, 0)]
def am_q126 : List (Option am_I) := [some (.aload_n 0, 1, 0, 0, 0, 0), some (.iconst 0, 1, 0, 0, 0, 0), some (.putfield 114, 3, 10, 0, 966, 0), none, none, some (.aload_n 0, 1, 0, 0, 0, 0), some (.getfield 19, 3, 10, 6, 972, 0), none, none, some (.aload_n 0, 1, 0, 0, 0, 0), some (.getfield 201, 3, 10, 3, 969, 0), none, none, some (.iaload, 1, 0, 0, 0, 0), some (.ireturn, 1, 0, 0, 0, 0)]
def am_q127 : List (Option am_I) := [some (.iload_n 1, 1, 0, 0, 0, 0), some (.ifCond .lt 20, 3, 21, 0, 0, 0), none, none, some (.iload_n 1, 1, 0, 0, 0, 0), some (.aload_n 0, 1, 0, 0, 0, 0), some (.getfield 25, 3, 10, 8, 974, 0), none, none, some (.aload_n 0, 1, 0, 0, 0, 0), some (.getfield 201, 3, 10, 3, 969, 0), none, none, some (.iaload, 1, 0, 0, 0, 0), some (.if_icmp .ge 7, 3, 21, 0, 0, 0), none, none, some (.iconst 1, 1, 0, 0, 0, 0), some (.goto 4, 3, 22, 0, 0, 0), none, none, some (.iconst 0, 1, 0, 0, 0, 0), some (.ireturn, 1, 0, 0, 0, 0)]
def am_q128 : List (Option am_I) := [some (.aload_n 0, 1, 0, 0, 0, 0), some (.aload_n 0, 1, 0, 0, 0, 0), some (.getfield 201, 3, 10, 3, 969, 0), none, none, some (.putfield 120, 3, 10, 19, 985, 0), none, none, some (.aload_n 0, 1, 0, 0, 0, 0), some (.iconst 4, 1, 0, 0, 0, 0), some (.aload_n 0, 1, 0, 0, 0, 0), some (.getfield 120, 3, 10, 19, 985, 0), none, none, some (.imul, 1, 0, 0, 0, 0), some (.aload_n 0, 1, 0, 0, 0, 0), some (.getfield 31, 3, 10, 10, 976, 0), none, none, some (.bipush 60, 2, 0, 0, 0, 0), none, some (.aload_n 0, 1, 0, 0, 0, 0), some (.getfield 120, 3, 10, 19, 985, 0), none, none, some (.imul, 1, 0, 0, 0, 0), some (.iload_n 1, 1, 0, 0, 0, 0), some (.iadd, 1, 0, 0, 0, 0), some (.iaload, 1, 0, 0, 0, 0), some (.iadd, 1, 0, 0, 0, 0), some (.putfield 149, 3, 10, 20, 986, 0), none, none, some (.aload_n 0, 1, 0, 0, 0, 0), some (.aload_n 0, 1, 0, 0, 0, 0), some (.getfield 28, 3, 10, 9, 975, 0), none, none, some (.bipush 60, 2, 0, 0, 0, 0), none, some (.aload_n 0, 1, 0, 0, 0, 0), some (.getfield 120, 3, 10, 19, 985, 0), none, none, some (.imul, 1, 0, 0, 0, 0), some (.iload_n 1, 1, 0, 0, 0, 0), some (.iadd, 1, 0, 0, 0, 0), some (.iaload, 1, 0, 0, 0, 0), some (.aload_n 0, 1, 0, 0, 0, 0), some (.getfield 16, 3, 10, 5, 971, 0), none, none, some (.aload_n 0, 1, 0, 0, 0, 0), some (.getfield 120, 3, 10, 19, 985, 0), none, none, some (.iaload, 1, 0, 0, 0, 0), some (.invokevirtual 232, 3, 115, 3, 1181, 0), none, none, some (.pop, 1, 0, 0, 0, 0), some (.return_, 1, 0, 0, 0, 0)]
def am_q129 : List (Option am_I) := [some (.lload_n 0, 1, 0, 0, 0, 0), some (.lload_n 2, 1, 0, 0, 0, 0), some (.ldiv, 1, 0, 0, 0, 0), some (.lload_n 0, 1, 0, 0, 0, 0), some (.lload_n 2, 1, 0, 0, 0, 0), some (.lrem, 1, 0, 0, 0, 0), some (.lconst 0, 1, 0, 0, 0, 0), some (.lcmp, 1, 0, 0, 0, 0), some (.ifCond .ge 7, 3, 15, 0, 0, 0), none, none, some (.lconst 1, 1, 0, 0, 0, 0), some (.goto 4, 3, 16, 0, 0, 0), none, none, some (.lconst 0, 1, 0, 0, 0, 0), some (.lsub, 1, 0, 0, 0, 0), some (.lreturn, 1, 0, 0, 0, 0)]
def am_q130 : List (Option am_I) := [some (.aload_n 0, 1, 0, 0, 0, 0), some (.iload_n 3, 1, 0, 0, 0, 0), some (.bipush 16, 2, 0, 0, 0, 0), none, some (.iadd, 1, 0, 0, 0, 0), some (.invokevirtual 219, 3, 101, 2, 1173, 0), none, none, some (.lstore 4, 2, 0, 0, 0, 0), none, some (.lload_n 1, 1, 0, 0, 0, 0), some (.aload_n 0, 1, 0, 0, 0, 0), some (.iload_n 3, 1, 0, 0, 0, 0), some (.bipush 12, 2, 0, 0, 0, 0), none, some (.iadd, 1, 0, 0, 0, 0), some (.invokevirtual 219, 3, 101, 2, 1173, 0), none, none, some (.lsub, 1, 0, 0, 0, 0), some (.lstore 6, 2, 0, 0, 0, 0), none, some (.lload 6, 2, 0, 0, 0, 0), none, some (.lload 4, 2, 0, 0, 0, 0), none, some (.invokestatic 277, 3, 129, 2, 1303, 0), none, none, some (.lstore 8, 2, 0, 0, 0, 0), none, some (.lload 6, 2, 0, 0, 0, 0), none, some (.lload 8, 2, 0, 0, 0, 0), none, some (.lload 4, 2, 0, 0, 0, 0), none, some (.lmul, 1, 0, 0, 0, 0), some (.lsub, 1, 0, 0, 0, 0), some (.lstore 10, 2, 0, 0, 0, 0), none, some (.lload 8, 2, 0, 0, 0, 0), none, some (.ldc2_w 281, 3, 0, 0, 1306, 1000000000), none, none, some (.lmul, 1, 0, 0, 0, 0), some (.lload 10, 2, 0, 0, 0, 0), none, some (.ldc2_w 281, 3, 0, 0, 1306, 1000000000), none, none, some (.lmul, 1, 0, 0, 0, 0), some (.lload 4, 2, 0, 0, 0, 0), none, some (.ldiv, 1, 0, 0, 0, 0), some (.ladd, 1, 0, 0, 0, 0), some (.lreturn, 1, 0, 0, 0, 0)]
def am_q131 : List (Option am_I) := [some (.aload_n 0, 1, 0, 0, 0, 0), some (.aload_n 0, 1, 0, 0, 0, 0), some (.iload_n 1, 1, 0, 0, 0, 0), some (.invokevirtual 283, 3, 127, 2, 1291, 0), none, none, some (.ifCond .ne 7, 3, 13, 0, 0, 0), none, none, some (.iconst 1, 1, 0, 0, 0, 0), some (.goto 17, 3, 27, 0, 0, 0), none, none, some (.iload_n 2, 1, 0, 0, 0, 0), some (.ifCond .lt 8, 3, 22, 0, 0, 0), none, none, some (.iload_n 2, 1, 0, 0, 0, 0), some (.iconst 3, 1, 0, 0, 0, 0), some (.if_icmp .le 7, 3, 26, 0, 0, 0), none, none, some (.iconst 2, 1, 0, 0, 0, 0), some (.goto 4, 3, 27, 0, 0, 0), none, none, some (.iconst 0, 1, 0, 0, 0, 0), some (.putfield 114, 3, 10, 0, 966, 0), none, none, some (.aload_n 0, 1, 0, 0, 0, 0), some (.getfield 114, 3, 10, 0, 966, 0), none, none, some (.ifCond .le 5, 3, 39, 0, 0, 0), none, none, some (.lconst 0, 1, 0, 0, 0, 0), some (.lreturn, 1, 0, 0, 0, 0), some (.aload_n 0, 1, 0, 0, 0, 0), some (.iload_n 1, 1, 0, 0, 0, 0), some (.invokevirtual 286, 3, 128, 2, 1295, 0), none, none, some (.iload_n 2, 1, 0, 0, 0, 0), some (.ifCond .ne 16, 3, 61, 0, 0, 0), none, none, some (.aload_n 0, 1, 0, 0, 0, 0), some (.getfield 149, 3, 10, 20, 986, 0), none, none, some (.iconst 4, 1, 0, 0, 0, 0), some (.aload_n 0, 1, 0, 0, 0, 0), some (.getfield 120, 3, 10, 19, 985, 0), none, none, some (.imul, 1, 0, 0, 0, 0), some (.isub, 1, 0, 0, 0, 0), some (.i2l, 1, 0, 0, 0, 0), some (.lreturn, 1, 0, 0, 0, 0), some (.iload_n 2, 1, 0, 0, 0, 0), some (.iconst 1, 1, 0, 0, 0, 0), some (.if_icmp .ne 19, 3, 82, 0, 0, 0), none, none, some (.aload_n 0, 1, 0, 0, 0, 0), some (.getfield 41, 3, 10, 13, 979, 0), none, none, some (.aload_n 0, 1, 0, 0, 0, 0), some (.aload_n 0, 1, 0, 0, 0, 0), some (.getfield 236, 3, 10, 56, 1022, 0), none, none, some (.iconst 1, 1, 0, 0, 0, 0), some (.invokevirtual 179, 3, 102, 3, 1199, 0), none, none, some (.iaload, 1, 0, 0, 0, 0), some (.i2l, 1, 0, 0, 0, 0), some (.lreturn, 1, 0, 0, 0, 0), some (.aload_n 0, 1, 0, 0, 0, 0), some (.invokevirtual 140, 3, 98, 1, 1189, 0), none, none, some (.lstore_n 3, 1, 0, 0, 0, 0), some (.iload_n 2, 1, 0, 0, 0, 0), some (.iconst 2, 1, 0, 0, 0, 0), some (.if_icmp .ne 7, 3, 96, 0, 0, 0), none, none, some (.lload_n 3, 1, 0, 0, 0, 0), some (.goto 17, 3, 110, 0, 0, 0), none, none, some (.aload_n 0, 1, 0, 0, 0, 0), some (.lload_n 3, 1, 0, 0, 0, 0), some (.aload_n 0, 1, 0, 0, 0, 0), some (.getfield 22, 3, 10, 7, 973, 0), none, none, some (.aload_n 0, 1, 0, 0, 0, 0), some (.getfield 149, 3, 10, 20, 986, 0), none, none, some (.iaload, 1, 0, 0, 0, 0), some (.invokevirtual 289, 3, 130, 3, 1299, 0), none, none, some (.lreturn, 1, 0, 0, 0, 0)]
def am_q132 : List (Option am_I) := [some (.aload_n 0, 1, 0, 0, 0, 0), some (.getfield 22, 3, 10, 7, 973, 0), none, none, some (.aload_n 0, 1, 0, 0, 0, 0), some (.getfield 149, 3, 10, 20, 986, 0), none, none, some (.iaload, 1, 0, 0, 0, 0), some (.istore 5, 2, 0, 0, 0, 0), none, some (.iload 5, 2, 0, 0, 0, 0), none, some (.aload_n 0, 1, 0, 0, 0, 0), some (.iload 5, 2, 0, 0, 0, 0), none, some (.bipush 6, 2, 0, 0, 0, 0), none, some (.iadd, 1, 0, 0, 0, 0), some (.invokevirtual 146, 3, 100, 2, 1169, 0), none, none, some (.iadd, 1, 0, 0, 0, 0), some (.istore 6, 2, 0, 0, 0, 0), none, some (.aload_n 0, 1, 0, 0, 0, 0), some (.iload 5, 2, 0, 0, 0, 0), none, some (.bipush 10, 2, 0, 0, 0, 0), none, some (.iadd, 1, 0, 0, 0, 0), some (.invokevirtual 146, 3, 100, 2, 1169, 0), none, none, some (.ifCond .ne 7, 3, 41, 0, 0, 0), none, none, some (.iconst 0, 1, 0, 0, 0, 0), some (.goto 15, 3, 53, 0, 0, 0), none, none, some (.iload 5, 2, 0, 0, 0, 0), none, some (.aload_n 0, 1, 0, 0, 0, 0), some (.iload 5, 2, 0, 0, 0, 0), none, some (.bipush 10, 2, 0, 0, 0, 0), none, some (.iadd, 1, 0, 0, 0, 0), some (.invokevirtual 146, 3, 100, 2, 1169, 0), none, none, some (.iadd, 1, 0, 0, 0, 0), some (.istore 7, 2, 0, 0, 0, 0), none, some (.iload 7, 2, 0, 0, 0, 0), none, some (.ifCond .le 121, 3, 178, 0, 0, 0), none, none, some (.aload_n 0, 1, 0, 0, 0, 0), some (.iload 7, 2, 0, 0, 0, 0), none, some (.iload 6, 2, 0, 0, 0, 0), none, some (.invokevirtual 232, 3, 115, 3, 1181, 0), none, none, some (.pop, 1, 0, 0, 0, 0), some (.aload_n 0, 1, 0, 0, 0, 0), some (.invokevirtual 165, 3, 99, 1, 1185, 0), none, none, some (.istore 8, 2, 0, 0, 0, 0), none, some (.aload_n 0, 1, 0, 0, 0, 0), some (.invokevirtual 165, 3, 99, 1, 1185, 0), none, none, some (.istore 9, 2, 0, 0, 0, 0), none, some (.iconst 0, 1, 0, 0, 0, 0), some (.istore 10, 2, 0, 0, 0, 0), none, some (.iload 10, 2, 0, 0, 0, 0), none, some (.iload 9, 2, 0, 0, 0, 0), none, some (.if_icmp .ge 71, 3, 159, 0, 0, 0), none, none, some (.aload_n 0, 1, 0, 0, 0, 0), some (.invokevirtual 165, 3, 99, 1, 1185, 0), none, none, some (.istore 11, 2, 0, 0, 0, 0), none, some (.aload_n 0, 1, 0, 0, 0, 0), some (.invokevirtual 165, 3, 99, 1, 1185, 0), none, none, some (.istore 12, 2, 0, 0, 0, 0), none, some (.iconst 0, 1, 0, 0, 0, 0), some (.istore 13, 2, 0, 0, 0, 0), none, some (.iload 13, 2, 0, 0, 0, 0), none, some (.iload 12, 2, 0, 0, 0, 0), none, some (.if_icmp .ge 43, 3, 153, 0, 0, 0), none, none, some (.aload_n 0, 1, 0, 0, 0, 0), some (.invokevirtual 140, 3, 98, 1, 1189, 0), none, none, some (.lstore 14, 2, 0, 0, 0, 0), none, some (.iload 11, 2, 0, 0, 0, 0), none, some (.i2l, 1, 0, 0, 0, 0), some (.lload_n 1, 1, 0, 0, 0, 0), some (.lcmp, 1, 0, 0, 0, 0), some (.ifCond .ne 15, 3, 139, 0, 0, 0), none, none, some (.lload 14, 2, 0, 0, 0, 0), none, some (.lload_n 3, 1, 0, 0, 0, 0), some (.lcmp, 1, 0, 0, 0, 0), some (.ifCond .ne 8, 3, 139, 0, 0, 0), none, none, some (.aload_n 0, 1, 0, 0, 0, 0), some (.getfield 126, 3, 10, 21, 987, 0), none, none, some (.ireturn, 1, 0, 0, 0, 0), some (.aload_n 0, 1, 0, 0, 0, 0), some (.iload 11, 2, 0, 0, 0, 0), none, some (.i2l, 1, 0, 0, 0, 0), some (.iconst 0, 1, 0, 0, 0, 0), some (.invokevirtual 270, 3, 108, 3, 1229, 0), none, none, some (.iinc 13 1, 3, 0, 0, 0, 0), none, none, some (.goto (-44), 3, 106, 0, 0, 0), none, none, some (.iinc 10 1, 3, 0, 0, 0, 0), none, none, some (.goto (-72), 3, 84, 0, 0, 0), none, none, some (.iload 8, 2, 0, 0, 0, 0), none, some (.ifCond .ne 7, 3, 168, 0, 0, 0), none, none, some (.iconst 0, 1, 0, 0, 0, 0), some (.goto 8, 3, 173, 0, 0, 0), none, none, some (.iload 7, 2, 0, 0, 0, 0), none, some (.iload 8, 2, 0, 0, 0, 0), none, some (.isub, 1, 0, 0, 0, 0), some (.istore 7, 2, 0, 0, 0, 0), none, some (.goto (-120), 3, 55, 0, 0, 0), none, none, some (.iconst (-1), 1, 0, 0, 0, 0), some (.ireturn, 1, 0, 0, 0, 0)]
def am_q133 : List (Option am_I) := [some (.iconst 0, 1, 0, 0, 0, 0), some (.istore_n 1, 1, 0, 0, 0, 0), some (.aload_n 0, 1, 0, 0, 0, 0), some (.iconst (-1), 1, 0, 0, 0, 0), some (.putfield 293, 3, 10, 36, 1002, 0), none, none, some (.aload_n 0, 1, 0, 0, 0, 0), some (.getfield 293, 3, 10, 36, 1002, 0), none, none, some (.ifCond .ge 227, 3, 238, 0, 0, 0), none, none, some (.aload_n 0, 1, 0, 0, 0, 0), some (.aload_n 0, 1, 0, 0, 0, 0), some (.getfield 296, 3, 10, 33, 999, 0), none, none, some (.putfield 126, 3, 10, 21, 987, 0), none, none, some (.aload_n 0, 1, 0, 0, 0, 0), some (.aload_n 0, 1, 0, 0, 0, 0), some (.getfield 16, 3, 10, 5, 971, 0), none, none, some (.aload_n 0, 1, 0, 0, 0, 0), some (.getfield 120, 3, 10, 19, 985, 0), none, none, some (.iaload, 1, 0, 0, 0, 0), some (.putfield 129, 3, 10, 22, 988, 0), none, none, some (.aload_n 0, 1, 0, 0, 0, 0), some (.getfield 299, 3, 10, 35, 1001, 0), none, none, some (.iconst 2, 1, 0, 0, 0, 0), some (.iand, 1, 0, 0, 0, 0), some (.ifCond .ne 16, 3, 57, 0, 0, 0), none, none, some (.aload_n 0, 1, 0, 0, 0, 0), some (.getfield 299, 3, 10, 35, 1001, 0), none, none, some (.iconst 1, 1, 0, 0, 0, 0), some (.iand, 1, 0, 0, 0, 0), some (.ifCond .eq 7, 3, 57, 0, 0, 0), none, none, some (.iconst 1, 1, 0, 0, 0, 0), some (.goto 4, 3, 58, 0, 0, 0), none, none, some (.iconst 0, 1, 0, 0, 0, 0), some (.istore_n 2, 1, 0, 0, 0, 0), some (.aload_n 0, 1, 0, 0, 0, 0), some (.getfield 299, 3, 10, 35, 1001, 0), none, none, some (.ifCond .ne 18, 3, 81, 0, 0, 0), none, none, some (.aload_n 0, 1, 0, 0, 0, 0), some (.getfield 302, 3, 10, 34, 1000, 0), none, none, some (.ldc2_w 173, 3, 0, 0, 1219, 10), none, none, some (.lcmp, 1, 0, 0, 0, 0), some (.ifCond .ne 7, 3, 81, 0, 0, 0), none, none, some (.iconst 1, 1, 0, 0, 0, 0), some (.goto 4, 3, 82, 0, 0, 0), none, none, some (.iconst 0, 1, 0, 0, 0, 0), some (.istore_n 3, 1, 0, 0, 0, 0), some (.iload_n 3, 1, 0, 0, 0, 0), some (.ifCond .eq 10, 3, 94, 0, 0, 0), none, none, some (.aload_n 0, 1, 0, 0, 0, 0), some (.invokevirtual 193, 3, 97, 1, 1203, 0), none, none, some (.goto 4, 3, 95, 0, 0, 0), none, none, some (.iconst 0, 1, 0, 0, 0, 0), some (.istore 4, 2, 0, 0, 0, 0), none, some (.iload_n 2, 1, 0, 0, 0, 0), some (.ifCond .ne 13, 3, 111, 0, 0, 0), none, none, some (.iload_n 3, 1, 0, 0, 0, 0), some (.ifCond .eq 68, 3, 170, 0, 0, 0), none, none, some (.iload 4, 2, 0, 0, 0, 0), none, some (.iconst 2, 1, 0, 0, 0, 0), some (.if_icmp .ne 62, 3, 170, 0, 0, 0), none, none, some (.iinc 1 1, 3, 0, 0, 0, 0), none, none, some (.aload_n 0, 1, 0, 0, 0, 0), some (.invokevirtual 140, 3, 98, 1, 1189, 0), none, none, some (.lstore 5, 2, 0, 0, 0, 0), none, some (.iload_n 1, 1, 0, 0, 0, 0), some (.bipush 6, 2, 0, 0, 0, 0), none, some (.if_icmp .le 7, 3, 130, 0, 0, 0), none, none, some (.iconst (-1), 1, 0, 0, 0, 0), some (.goto 13, 3, 140, 0, 0, 0), none, none, some (.aload_n 0, 1, 0, 0, 0, 0), some (.aload_n 0, 1, 0, 0, 0, 0), some (.getfield 302, 3, 10, 34, 1000, 0), none, none, some (.lload 5, 2, 0, 0, 0, 0), none, some (.invokevirtual 305, 3, 132, 3, 1331, 0), none, none, some (.istore 7, 2, 0, 0, 0, 0), none, some (.aload_n 0, 1, 0, 0, 0, 0), some (.iload 7, 2, 0, 0, 0, 0), none, some (.ifCond .ge 7, 3, 152, 0, 0, 0), none, none, some (.iconst 1, 1, 0, 0, 0, 0), some (.goto 4, 3, 153, 0, 0, 0), none, none, some (.iconst (-1), 1, 0, 0, 0, 0), some (.putfield 293, 3, 10, 36, 1002, 0), none, none, some (.aload_n 0, 1, 0, 0, 0, 0), some (.iload 7, 2, 0, 0, 0, 0), none, some (.putfield 296, 3, 10, 33, 999, 0), none, none, some (.aload_n 0, 1, 0, 0, 0, 0), some (.iconst 0, 1, 0, 0, 0, 0), some (.putfield 299, 3, 10, 35, 1001, 0), none, none, some (.goto 68, 3, 235, 0, 0, 0), none, none, some (.aload_n 0, 1, 0, 0, 0, 0), some (.getfield 299, 3, 10, 35, 1001, 0), none, none, some (.iconst 2, 1, 0, 0, 0, 0), some (.iand, 1, 0, 0, 0, 0), some (.ifCond .eq 12, 3, 188, 0, 0, 0), none, none, some (.aload_n 0, 1, 0, 0, 0, 0), some (.bipush 12, 2, 0, 0, 0, 0), none, some (.putfield 293, 3, 10, 36, 1002, 0), none, none, some (.goto 50, 3, 235, 0, 0, 0), none, none, some (.iload_n 3, 1, 0, 0, 0, 0), some (.ifCond .eq 21, 3, 210, 0, 0, 0), none, none, some (.aload_n 0, 1, 0, 0, 0, 0), some (.iload 4, 2, 0, 0, 0, 0), none, some (.ifCond .ne 7, 3, 202, 0, 0, 0), none, none, some (.iconst 1, 1, 0, 0, 0, 0), some (.goto 5, 3, 204, 0, 0, 0), none, none, some (.bipush 10, 2, 0, 0, 0, 0), none, some (.putfield 293, 3, 10, 36, 1002, 0), none, none, some (.goto 28, 3, 235, 0, 0, 0), none, none, some (.aload_n 0, 1, 0, 0, 0, 0), some (.aload_n 0, 1, 0, 0, 0, 0), some (.getfield 302, 3, 10, 34, 1000, 0), none, none, some (.ldc2_w 173, 3, 0, 0, 1219, 10), none, none, some (.lcmp, 1, 0, 0, 0, 0), some (.ifCond .le 8, 3, 227, 0, 0, 0), none, none, some (.bipush 11, 2, 0, 0, 0, 0), none, some (.goto 8, 3, 232, 0, 0, 0), none, none, some (.aload_n 0, 1, 0, 0, 0, 0), some (.getfield 302, 3, 10, 34, 1000, 0), none, none, some (.l2i, 1, 0, 0, 0, 0), some (.putfield 293, 3, 10, 36, 1002, 0), none, none, some (.goto (-228), 3, 7, 0, 0, 0), none, none, some (.return_, 1, 0, 0, 0, 0)]
def am_q134 : List (Option am_I) := [some (.aload_n 0, 1, 0, 0, 0, 0), some (.aload_n 0, 1, 0, 0, 0, 0), some (.getfield 302, 3, 10, 34, 1000, 0), none, none, some (.iconst (-1), 1, 0, 0, 0, 0), some (.invokevirtual 179, 3, 102, 3, 1199, 0), none, none, some (.ireturn, 1, 0, 0, 0, 0)]
def am_q135 : List (Option am_I) := [some (.aload_n 0, 1, 0, 0, 0, 0), some (.aload_n 0, 1, 0, 0, 0, 0), some (.getfield 296, 3, 10, 33, 999, 0), none, none, some (.putfield 126, 3, 10, 21, 987, 0), none, none, some (.aload_n 0, 1, 0, 0, 0, 0), some (.aload_n 0, 1, 0, 0, 0, 0), some (.getfield 16, 3, 10, 5, 971, 0), none, none, some (.aload_n 0, 1, 0, 0, 0, 0), some (.getfield 120, 3, 10, 19, 985, 0), none, none, some (.iaload, 1, 0, 0, 0, 0), some (.putfield 129, 3, 10, 22, 988, 0), none, none, some (.aload_n 0, 1, 0, 0, 0, 0), some (.getfield 293, 3, 10, 36, 1002, 0), none, none, some (.bipush 11, 2, 0, 0, 0, 0), none, some (.if_icmp .ne 119, 3, 146, 0, 0, 0), none, none, some (.iload_n 1, 1, 0, 0, 0, 0), some (.bipush 97, 2, 0, 0, 0, 0), none, some (.if_icmp .lt 113, 3, 146, 0, 0, 0), none, none, some (.iload_n 1, 1, 0, 0, 0, 0), some (.bipush 122, 2, 0, 0, 0, 0), none, some (.if_icmp .gt 107, 3, 146, 0, 0, 0), none, none, some (.aload_n 0, 1, 0, 0, 0, 0), some (.invokevirtual 309, 3, 134, 1, 1319, 0), none, none, some (.istore_n 2, 1, 0, 0, 0, 0), some (.aload_n 0, 1, 0, 0, 0, 0), some (.iload_n 2, 1, 0, 0, 0, 0), some (.iload_n 1, 1, 0, 0, 0, 0), some (.invokevirtual 261, 3, 103, 3, 1211, 0), none, none, some (.istore_n 3, 1, 0, 0, 0, 0), some (.aload_n 0, 1, 0, 0, 0, 0), some (.iload_n 3, 1, 0, 0, 0, 0), some (.ifCond .ge 7, 3, 63, 0, 0, 0), none, none, some (.iconst 0, 1, 0, 0, 0, 0), some (.goto 7, 3, 67, 0, 0, 0), none, none, some (.aload_n 0, 1, 0, 0, 0, 0), some (.getfield 293, 3, 10, 36, 1002, 0), none, none, some (.putfield 293, 3, 10, 36, 1002, 0), none, none, some (.iconst 0, 1, 0, 0, 0, 0), some (.istore 4, 2, 0, 0, 0, 0), none, some (.iload 4, 2, 0, 0, 0, 0), none, some (.iload_n 3, 1, 0, 0, 0, 0), some (.if_icmp .ge 37, 3, 113, 0, 0, 0), none, none, some (.aload_n 0, 1, 0, 0, 0, 0), some (.aload_n 0, 1, 0, 0, 0, 0), some (.getfield 53, 3, 10, 17, 983, 0), none, none, some (.bipush 8, 2, 0, 0, 0, 0), none, some (.iload_n 2, 1, 0, 0, 0, 0), some (.imul, 1, 0, 0, 0, 0), some (.iload 4, 2, 0, 0, 0, 0), none, some (.iadd, 1, 0, 0, 0, 0), some (.laload, 1, 0, 0, 0, 0), some (.aload_n 0, 1, 0, 0, 0, 0), some (.getfield 56, 3, 10, 18, 984, 0), none, none, some (.bipush 8, 2, 0, 0, 0, 0), none, some (.iload_n 2, 1, 0, 0, 0, 0), some (.imul, 1, 0, 0, 0, 0), some (.iload 4, 2, 0, 0, 0, 0), none, some (.iadd, 1, 0, 0, 0, 0), some (.iaload, 1, 0, 0, 0, 0), some (.invokevirtual 270, 3, 108, 3, 1229, 0), none, none, some (.iinc 4 1, 3, 0, 0, 0, 0), none, none, some (.goto (-37), 3, 73, 0, 0, 0), none, none, some (.iload_n 3, 1, 0, 0, 0, 0), some (.ifCond .lt 29, 3, 143, 0, 0, 0), none, none, some (.aload_n 0, 1, 0, 0, 0, 0), some (.aload_n 0, 1, 0, 0, 0, 0), some (.getfield 53, 3, 10, 17, 983, 0), none, none, some (.bipush 8, 2, 0, 0, 0, 0), none, some (.iload_n 2, 1, 0, 0, 0, 0), some (.imul, 1, 0, 0, 0, 0), some (.iload_n 3, 1, 0, 0, 0, 0), some (.iadd, 1, 0, 0, 0, 0), some (.laload, 1, 0, 0, 0, 0), some (.aload_n 0, 1, 0, 0, 0, 0), some (.getfield 56, 3, 10, 18, 984, 0), none, none, some (.bipush 8, 2, 0, 0, 0, 0), none, some (.iload_n 2, 1, 0, 0, 0, 0), some (.imul, 1, 0, 0, 0, 0), some (.iload_n 3, 1, 0, 0, 0, 0), some (.iadd, 1, 0, 0, 0, 0), some (.iaload, 1, 0, 0, 0, 0), some (.invokevirtual 312, 3, 136, 3, 1323, 0), none, none, some (.goto 103, 3, 246, 0, 0, 0), none, none, some (.aload_n 0, 1, 0, 0, 0, 0), some (.getfield 293, 3, 10, 36, 1002, 0), none, none, some (.bipush 12, 2, 0, 0, 0, 0), none, some (.if_icmp .ne 89, 3, 241, 0, 0, 0), none, none, some (.iload_n 1, 1, 0, 0, 0, 0), some (.bipush 48, 2, 0, 0, 0, 0), none, some (.if_icmp .lt 83, 3, 241, 0, 0, 0), none, none, some (.iload_n 1, 1, 0, 0, 0, 0), some (.bipush 57, 2, 0, 0, 0, 0), none, some (.if_icmp .gt 77, 3, 241, 0, 0, 0), none, none, some (.aload_n 0, 1, 0, 0, 0, 0), some (.invokevirtual 165, 3, 99, 1, 1185, 0), none, none, some (.istore_n 2, 1, 0, 0, 0, 0), some (.iload_n 1, 1, 0, 0, 0, 0), some (.bipush 48, 2, 0, 0, 0, 0), none, some (.isub, 1, 0, 0, 0, 0), some (.istore_n 3, 1, 0, 0, 0, 0), some (.iconst 0, 1, 0, 0, 0, 0), some (.istore 4, 2, 0, 0, 0, 0), none, some (.iload 4, 2, 0, 0, 0, 0), none, some (.iload_n 3, 1, 0, 0, 0, 0), some (.if_icmp .ge 28, 3, 211, 0, 0, 0), none, none, some (.iload_n 3, 1, 0, 0, 0, 0), some (.iload_n 2, 1, 0, 0, 0, 0), some (.if_icmp .ge 23, 3, 211, 0, 0, 0), none, none, some (.aload_n 0, 1, 0, 0, 0, 0), some (.aload_n 0, 1, 0, 0, 0, 0), some (.getfield 302, 3, 10, 34, 1000, 0), none, none, some (.aload_n 0, 1, 0, 0, 0, 0), some (.getfield 299, 3, 10, 35, 1001, 0), none, none, some (.iconst 1, 1, 0, 0, 0, 0), some (.iand, 1, 0, 0, 0, 0), some (.invokevirtual 270, 3, 108, 3, 1229, 0), none, none, some (.iinc 4 1, 3, 0, 0, 0, 0), none, none, some (.goto (-28), 3, 180, 0, 0, 0), none, none, some (.iload_n 3, 1, 0, 0, 0, 0), some (.iload_n 2, 1, 0, 0, 0, 0), some (.if_icmp .ge 20, 3, 233, 0, 0, 0), none, none, some (.aload_n 0, 1, 0, 0, 0, 0), some (.aload_n 0, 1, 0, 0, 0, 0), some (.getfield 302, 3, 10, 34, 1000, 0), none, none, some (.aload_n 0, 1, 0, 0, 0, 0), some (.getfield 299, 3, 10, 35, 1001, 0), none, none, some (.iconst 1, 1, 0, 0, 0, 0), some (.iand, 1, 0, 0, 0, 0), some (.invokevirtual 312, 3, 136, 3, 1323, 0), none, none, some (.goto 8, 3, 238, 0, 0, 0), none, none, some (.aload_n 0, 1, 0, 0, 0, 0), some (.iconst 0, 1, 0, 0, 0, 0), some (.putfield 293, 3, 10, 36, 1002, 0), none, none, some (.goto 8, 3, 246, 0, 0, 0), none, none, some (.aload_n 0, 1, 0, 0, 0, 0), some (.iconst 0, 1, 0, 0, 0, 0), some (.putfield 293, 3, 10, 36, 1002, 0), none, none, some (.return_, 1, 0, 0, 0, 0)]
def am_q136 : List (Option am_I) := [some (.aload_n 0, 1, 0, 0, 0, 0), some (.aload_n 0, 1, 0, 0, 0, 0), some (.getfield 126, 3, 10, 21, 987, 0), none, none, some (.putfield 296, 3, 10, 33, 999, 0), none, none, some (.aload_n 0, 1, 0, 0, 0, 0), some (.lload_n 1, 1, 0, 0, 0, 0), some (.putfield 302, 3, 10, 34, 1000, 0), none, none, some (.aload_n 0, 1, 0, 0, 0, 0), some (.iload_n 3, 1, 0, 0, 0, 0), some (.putfield 299, 3, 10, 35, 1001, 0), none, none, some (.aload_n 0, 1, 0, 0, 0, 0), some (.invokevirtual 315, 3, 133, 1, 1327, 0), none, none, some (.return_, 1, 0, 0, 0, 0)]
def am_q137 : List (Option am_I) := [some (.aload_n 0, 1, 0, 0, 0, 0), some (.iload_n 1, 1, 0, 0, 0, 0), some (.invokevirtual 286, 3, 128, 2, 1295, 0), none, none, some (.aload_n 0, 1, 0, 0, 0, 0), some (.aload_n 0, 1, 0, 0, 0, 0), some (.getfield 236, 3, 10, 56, 1022, 0), none, none, some (.putfield 302, 3, 10, 34, 1000, 0), none, none, some (.aload_n 0, 1, 0, 0, 0, 0), some (.iconst 0, 1, 0, 0, 0, 0), some (.putfield 299, 3, 10, 35, 1001, 0), none, none, some (.aload_n 0, 1, 0, 0, 0, 0), some (.invokevirtual 140, 3, 98, 1, 1189, 0), none, none, some (.pop2, 1, 0, 0, 0, 0), some (.aload_n 0, 1, 0, 0, 0, 0), some (.aload_n 0, 1, 0, 0, 0, 0), some (.getfield 126, 3, 10, 21, 987, 0), none, none, some (.putfield 296, 3, 10, 33, 999, 0), none, none, some (.aload_n 0, 1, 0, 0, 0, 0), some (.bipush 11, 2, 0, 0, 0, 0), none, some (.putfield 293, 3, 10, 36, 1002, 0), none, none, some (.iconst 1, 1, 0, 0, 0, 0), some (.istore_n 3, 1, 0, 0, 0, 0), some (.iconst 0, 1, 0, 0, 0, 0), some (.istore 4, 2, 0, 0, 0, 0), none, some (.iload 4, 2, 0, 0, 0, 0), none, some (.iconst 4, 1, 0, 0, 0, 0), some (.if_icmp .ge 54, 3, 99, 0, 0, 0), none, none, some (.iload_n 3, 1, 0, 0, 0, 0), some (.ifCond .eq 50, 3, 99, 0, 0, 0), none, none, some (.iload_n 2, 1, 0, 0, 0, 0), some (.bipush 8, 2, 0, 0, 0, 0), none, some (.iload 4, 2, 0, 0, 0, 0), none, some (.imul, 1, 0, 0, 0, 0), some (.ishr, 1, 0, 0, 0, 0), some (.sipush 255, 3, 0, 0, 0, 0), none, none, some (.iand, 1, 0, 0, 0, 0), some (.istore 5, 2, 0, 0, 0, 0), none, some (.iload 5, 2, 0, 0, 0, 0), none, some (.ifCond .eq 14, 3, 81, 0, 0, 0), none, none, some (.aload_n 0, 1, 0, 0, 0, 0), some (.getfield 293, 3, 10, 36, 1002, 0), none, none, some (.ifCond .eq 7, 3, 81, 0, 0, 0), none, none, some (.iconst 1, 1, 0, 0, 0, 0), some (.goto 4, 3, 82, 0, 0, 0), none, none, some (.iconst 0, 1, 0, 0, 0, 0), some (.istore_n 3, 1, 0, 0, 0, 0), some (.iload_n 3, 1, 0, 0, 0, 0), some (.ifCond .eq 9, 3, 93, 0, 0, 0), none, none, some (.aload_n 0, 1, 0, 0, 0, 0), some (.iload 5, 2, 0, 0, 0, 0), none, some (.invokevirtual 318, 3, 135, 2, 1315, 0), none, none, some (.iinc 4 1, 3, 0, 0, 0, 0), none, none, some (.goto (-54), 3, 42, 0, 0, 0), none, none, some (.aload_n 0, 1, 0, 0, 0, 0), some (.getfield 293, 3, 10, 36, 1002, 0), none, none, some (.ireturn, 1, 0, 0, 0, 0)]
def am_q138 : List (Option am_I) := [some (.aload_n 0, 1, 0, 0, 0, 0), some (.aload_n 0, 1, 0, 0, 0, 0), some (.iload_n 1, 1, 0, 0, 0, 0), some (.invokevirtual 283, 3, 127, 2, 1291, 0), none, none, some (.ifCond .eq 7, 3, 13, 0, 0, 0), none, none, some (.iconst 0, 1, 0, 0, 0, 0), some (.goto 4, 3, 14, 0, 0, 0), none, none, some (.iconst 1, 1, 0, 0, 0, 0), some (.putfield 114, 3, 10, 0, 966, 0), none, none, some (.aload_n 0, 1, 0, 0, 0, 0), some (.getfield 114, 3, 10, 0, 966, 0), none, none, some (.ifCond .le 7, 3, 28, 0, 0, 0), none, none, some (.iconst 0, 1, 0, 0, 0, 0), some (.goto 9, 3, 34, 0, 0, 0), none, none, some (.aload_n 0, 1, 0, 0, 0, 0), some (.iload_n 1, 1, 0, 0, 0, 0), some (.iload_n 2, 1, 0, 0, 0, 0), some (.invokevirtual 321, 3, 137, 3, 1311, 0), none, none, some (.ireturn, 1, 0, 0, 0, 0)]
def am_q139 : List (Option am_I) := [some (.aload_n 0, 1, 0, 0, 0, 0), some (.aload_n 0, 1, 0, 0, 0, 0), some (.getfield 296, 3, 10, 33, 999, 0), none, none, some (.putfield 126, 3, 10, 21, 987, 0), none, none, some (.aload_n 0, 1, 0, 0, 0, 0), some (.aload_n 0, 1, 0, 0, 0, 0), some (.getfield 16, 3, 10, 5, 971, 0), none, none, some (.aload_n 0, 1, 0, 0, 0, 0), some (.getfield 120, 3, 10, 19, 985, 0), none, none, some (.iaload, 1, 0, 0, 0, 0), some (.putfield 129, 3, 10, 22, 988, 0), none, none, some (.aload_n 0, 1, 0, 0, 0, 0), some (.getfield 293, 3, 10, 36, 1002, 0), none, none, some (.bipush 12, 2, 0, 0, 0, 0), none, some (.if_icmp .ne 9, 3, 36, 0, 0, 0), none, none, some (.aload_n 0, 1, 0, 0, 0, 0), some (.invokevirtual 165, 3, 99, 1, 1185, 0), none, none, some (.i2l, 1, 0, 0, 0, 0), some (.lreturn, 1, 0, 0, 0, 0), some (.aload_n 0, 1, 0, 0, 0, 0), some (.getfield 293, 3, 10, 36, 1002, 0), none, none, some (.bipush 11, 2, 0, 0, 0, 0), none, some (.if_icmp .ne 14, 3, 56, 0, 0, 0), none, none, some (.aload_n 0, 1, 0, 0, 0, 0), some (.getfield 41, 3, 10, 13, 979, 0), none, none, some (.aload_n 0, 1, 0, 0, 0, 0), some (.invokevirtual 309, 3, 134, 1, 1319, 0), none, none, some (.iaload, 1, 0, 0, 0, 0), some (.i2l, 1, 0, 0, 0, 0), some (.lreturn, 1, 0, 0, 0, 0), some (.aload_n 0, 1, 0, 0, 0, 0), some (.getfield 293, 3, 10, 36, 1002, 0), none, none, some (.bipush 10, 2, 0, 0, 0, 0), none, some (.if_icmp .ne 10, 3, 72, 0, 0, 0), none, none, some (.aload_n 0, 1, 0, 0, 0, 0), some (.iconst (-1), 1, 0, 0, 0, 0), some (.invokevirtual 324, 3, 140, 2, 1343, 0), none, none, some (.i2l, 1, 0, 0, 0, 0), some (.lreturn, 1, 0, 0, 0, 0), some (.aload_n 0, 1, 0, 0, 0, 0), some (.getfield 293, 3, 10, 36, 1002, 0), none, none, some (.iconst 1, 1, 0, 0, 0, 0), some (.if_icmp .ne 5, 3, 82, 0, 0, 0), none, none, some (.lconst 0, 1, 0, 0, 0, 0), some (.lreturn, 1, 0, 0, 0, 0), some (.aload_n 0, 1, 0, 0, 0, 0), some (.getfield 293, 3, 10, 36, 1002, 0), none, none, some (.iconst 2, 1, 0, 0, 0, 0), some (.if_icmp .ne 16, 3, 103, 0, 0, 0), none, none, some (.aload_n 0, 1, 0, 0, 0, 0), some (.invokevirtual 193, 3, 97, 1, 1203, 0), none, none, some (.ifCond .ne 7, 3, 101, 0, 0, 0), none, none, some (.lconst 0, 1, 0, 0, 0, 0), some (.goto 4, 3, 102, 0, 0, 0), none, none, some (.lconst 1, 1, 0, 0, 0, 0), some (.lreturn, 1, 0, 0, 0, 0), some (.aload_n 0, 1, 0, 0, 0, 0), some (.getfield 293, 3, 10, 36, 1002, 0), none, none, some (.iconst 3, 1, 0, 0, 0, 0), some (.if_icmp .ne 10, 3, 118, 0, 0, 0), none, none, some (.aload_n 0, 1, 0, 0, 0, 0), some (.invokevirtual 193, 3, 97, 1, 1203, 0), none, none, some (.i2b, 1, 0, 0, 0, 0), some (.i2l, 1, 0, 0, 0, 0), some (.lreturn, 1, 0, 0, 0, 0), some (.aload_n 0, 1, 0, 0, 0, 0), some (.getfield 293, 3, 10, 36, 1002, 0), none, none, some (.bipush 8, 2, 0, 0, 0, 0), none, some (.if_icmp .ne 12, 3, 136, 0, 0, 0), none, none, some (.aload_n 0, 1, 0, 0, 0, 0), some (.aload_n 0, 1, 0, 0, 0, 0), some (.getfield 296, 3, 10, 33, 999, 0), none, none, some (.invokevirtual 219, 3, 101, 2, 1173, 0), none, none, some (.lreturn, 1, 0, 0, 0, 0), some (.aload_n 0, 1, 0, 0, 0, 0), some (.getfield 293, 3, 10, 36, 1002, 0), none, none, some (.bipush 9, 2, 0, 0, 0, 0), none, some (.if_icmp .ne 26, 3, 168, 0, 0, 0), none, none, some (.aload_n 0, 1, 0, 0, 0, 0), some (.aload_n 0, 1, 0, 0, 0, 0), some (.getfield 296, 3, 10, 33, 999, 0), none, none, some (.invokevirtual 219, 3, 101, 2, 1173, 0), none, none, some (.bipush 32, 2, 0, 0, 0, 0), none, some (.lshl, 1, 0, 0, 0, 0), some (.aload_n 0, 1, 0, 0, 0, 0), some (.aload_n 0, 1, 0, 0, 0, 0), some (.getfield 296, 3, 10, 33, 999, 0), none, none, some (.iconst 4, 1, 0, 0, 0, 0), some (.iadd, 1, 0, 0, 0, 0), some (.invokevirtual 219, 3, 101, 2, 1173, 0), none, none, some (.lor, 1, 0, 0, 0, 0), some (.lreturn, 1, 0, 0, 0, 0), some (.aload_n 0, 1, 0, 0, 0, 0), some (.invokevirtual 140, 3, 98, 1, 1189, 0), none, none, some (.lstore_n 1, 1, 0, 0, 0, 0), some (.aload_n 0, 1, 0, 0, 0, 0), some (.getfield 293, 3, 10, 36, 1002, 0), none, none, some (.iconst 4, 1, 0, 0, 0, 0), some (.if_icmp .ne 10, 3, 188, 0, 0, 0), none, none, some (.lload_n 1, 1, 0, 0, 0, 0), some (.l2i, 1, 0, 0, 0, 0), some (.i2s, 1, 0, 0, 0, 0), some (.i2l, 1, 0, 0, 0, 0), some (.goto 35, 3, 220, 0, 0, 0), none, none, some (.aload_n 0, 1, 0, 0, 0, 0), some (.getfield 293, 3, 10, 36, 1002, 0), none, none, some (.iconst 5, 1, 0, 0, 0, 0), some (.if_icmp .ne 11, 3, 204, 0, 0, 0), none, none, some (.lload_n 1, 1, 0, 0, 0, 0), some (.ldc2_w 327, 3, 0, 0, 1347, 65535), none, none, some (.land, 1, 0, 0, 0, 0), some (.goto 19, 3, 220, 0, 0, 0), none, none, some (.aload_n 0, 1, 0, 0, 0, 0), some (.getfield 293, 3, 10, 36, 1002, 0), none, none, some (.bipush 6, 2, 0, 0, 0, 0), none, some (.if_icmp .ne 9, 3, 219, 0, 0, 0), none, none, some (.lload_n 1, 1, 0, 0, 0, 0), some (.l2i, 1, 0, 0, 0, 0), some (.i2l, 1, 0, 0, 0, 0), some (.goto 4, 3, 220, 0, 0, 0), none, none, some (.lload_n 1, 1, 0, 0, 0, 0), some (.lreturn, 1, 0, 0, 0, 0)]
def am_q140 : List (Option am_I) := [some (.aload_n 0, 1, 0, 0, 0, 0), some (.aload_n 0, 1, 0, 0, 0, 0), some (.getfield 296, 3, 10, 33, 999, 0), none, none, some (.putfield 126, 3, 10, 21, 987, 0), none, none, some (.aload_n 0, 1, 0, 0, 0, 0), some (.aload_n 0, 1, 0, 0, 0, 0), some (.getfield 16, 3, 10, 5, 971, 0), none, none, some (.aload_n 0, 1, 0, 0, 0, 0), some (.getfield 120, 3, 10, 19, 985, 0), none, none, some (.iaload, 1, 0, 0, 0, 0), some (.putfield 129, 3, 10, 22, 988, 0), none, none, some (.aload_n 0, 1, 0, 0, 0, 0), some (.invokevirtual 193, 3, 97, 1, 1203, 0), none, none, some (.istore_n 2, 1, 0, 0, 0, 0), some (.iload_n 2, 1, 0, 0, 0, 0), some (.iconst 1, 1, 0, 0, 0, 0), some (.if_icmp .ne 7, 3, 35, 0, 0, 0), none, none, some (.iconst 0, 1, 0, 0, 0, 0), some (.goto 7, 3, 39, 0, 0, 0), none, none, some (.aload_n 0, 1, 0, 0, 0, 0), some (.invokevirtual 165, 3, 99, 1, 1185, 0), none, none, some (.istore_n 3, 1, 0, 0, 0, 0), some (.iload_n 2, 1, 0, 0, 0, 0), some (.iconst 3, 1, 0, 0, 0, 0), some (.if_icmp .ne 12, 3, 54, 0, 0, 0), none, none, some (.aload_n 0, 1, 0, 0, 0, 0), some (.getfield 126, 3, 10, 21, 987, 0), none, none, some (.iload_n 3, 1, 0, 0, 0, 0), some (.iadd, 1, 0, 0, 0, 0), some (.goto 12, 3, 63, 0, 0, 0), none, none, some (.aload_n 0, 1, 0, 0, 0, 0), some (.getfield 16, 3, 10, 5, 971, 0), none, none, some (.aload_n 0, 1, 0, 0, 0, 0), some (.getfield 120, 3, 10, 19, 985, 0), none, none, some (.iaload, 1, 0, 0, 0, 0), some (.istore 4, 2, 0, 0, 0, 0), none, some (.iconst 0, 1, 0, 0, 0, 0), some (.istore 5, 2, 0, 0, 0, 0), none, some (.iload_n 2, 1, 0, 0, 0, 0), some (.iconst 3, 1, 0, 0, 0, 0), some (.if_icmp .ne 15, 3, 85, 0, 0, 0), none, none, some (.aload_n 0, 1, 0, 0, 0, 0), some (.getfield 126, 3, 10, 21, 987, 0), none, none, some (.iload 4, 2, 0, 0, 0, 0), none, some (.if_icmp .ge 64, 3, 143, 0, 0, 0), none, none, some (.goto 9, 3, 91, 0, 0, 0), none, none, some (.iload 5, 2, 0, 0, 0, 0), none, some (.iload_n 3, 1, 0, 0, 0, 0), some (.if_icmp .ge 55, 3, 143, 0, 0, 0), none, none, some (.iload_n 2, 1, 0, 0, 0, 0), some (.iconst 3, 1, 0, 0, 0, 0), some (.if_icmp .ne 12, 3, 105, 0, 0, 0), none, none, some (.aload_n 0, 1, 0, 0, 0, 0), some (.iload 4, 2, 0, 0, 0, 0), none, some (.invokevirtual 196, 3, 111, 2, 1253, 0), none, none, some (.goto 24, 3, 126, 0, 0, 0), none, none, some (.iload_n 2, 1, 0, 0, 0, 0), some (.iconst 4, 1, 0, 0, 0, 0), some (.if_icmp .ne 15, 3, 122, 0, 0, 0), none, none, some (.aload_n 0, 1, 0, 0, 0, 0), some (.invokevirtual 140, 3, 98, 1, 1189, 0), none, none, some (.ldc2_w 327, 3, 0, 0, 1347, 65535), none, none, some (.land, 1, 0, 0, 0, 0), some (.l2i, 1, 0, 0, 0, 0), some (.goto 7, 3, 126, 0, 0, 0), none, none, some (.aload_n 0, 1, 0, 0, 0, 0), some (.invokevirtual 193, 3, 97, 1, 1203, 0), none, none, some (.istore 6, 2, 0, 0, 0, 0), none, some (.iload 5, 2, 0, 0, 0, 0), none, some (.iload_n 1, 1, 0, 0, 0, 0), some (.if_icmp .ne 6, 3, 137, 0, 0, 0), none, none, some (.iload 6, 2, 0, 0, 0, 0), none, some (.ireturn, 1, 0, 0, 0, 0), some (.iinc 5 1, 3, 0, 0, 0, 0), none, none, some (.goto (-72), 3, 68, 0, 0, 0), none, none, some (.iload_n 1, 1, 0, 0, 0, 0), some (.ifCond .ge 8, 3, 152, 0, 0, 0), none, none, some (.iload 5, 2, 0, 0, 0, 0), none, some (.goto 4, 3, 153, 0, 0, 0), none, none, some (.iconst (-1), 1, 0, 0, 0, 0), some (.ireturn, 1, 0, 0, 0, 0)]
def am_q141 : List (Option am_I) := [some (.aload_n 0, 1, 0, 0, 0, 0), some (.aload_n 0, 1, 0, 0, 0, 0), some (.iload_n 1, 1, 0, 0, 0, 0), some (.invokevirtual 283, 3, 127, 2, 1291, 0), none, none, some (.ifCond .ne 7, 3, 13, 0, 0, 0), none, none, some (.iconst 1, 1, 0, 0, 0, 0), some (.goto 17, 3, 27, 0, 0, 0), none, none, some (.aload_n 0, 1, 0, 0, 0, 0), some (.iload_n 1, 1, 0, 0, 0, 0), some (.iload_n 2, 1, 0, 0, 0, 0), some (.invokevirtual 321, 3, 137, 3, 1311, 0), none, none, some (.ifCond .ne 7, 3, 26, 0, 0, 0), none, none, some (.iconst 2, 1, 0, 0, 0, 0), some (.goto 4, 3, 27, 0, 0, 0), none, none, some (.iconst 0, 1, 0, 0, 0, 0), some (.putfield 114, 3, 10, 0, 966, 0), none, none, some (.aload_n 0, 1, 0, 0, 0, 0), some (.getfield 114, 3, 10, 0, 966, 0), none, none, some (.ifCond .le 7, 3, 41, 0, 0, 0), none, none, some (.lconst 0, 1, 0, 0, 0, 0), some (.goto 7, 3, 45, 0, 0, 0), none, none, some (.aload_n 0, 1, 0, 0, 0, 0), some (.invokevirtual 329, 3, 139, 1, 1339, 0), none, none, some (.lreturn, 1, 0, 0, 0, 0)]
def am_q142 : List (Option am_I) := [some (.aload_n 0, 1, 0, 0, 0, 0), some (.aload_n 0, 1, 0, 0, 0, 0), some (.iload_n 1, 1, 0, 0, 0, 0), some (.invokevirtual 283, 3, 127, 2, 1291, 0), none, none, some (.ifCond .ne 7, 3, 13, 0, 0, 0), none, none, some (.iconst 1, 1, 0, 0, 0, 0), some (.goto 19, 3, 29, 0, 0, 0), none, none, some (.aload_n 0, 1, 0, 0, 0, 0), some (.iload_n 1, 1, 0, 0, 0, 0), some (.iload_n 2, 1, 0, 0, 0, 0), some (.invokevirtual 321, 3, 137, 3, 1311, 0), none, none, some (.bipush 10, 2, 0, 0, 0, 0), none, some (.if_icmp .eq 7, 3, 28, 0, 0, 0), none, none, some (.iconst 2, 1, 0, 0, 0, 0), some (.goto 4, 3, 29, 0, 0, 0), none, none, some (.iconst 0, 1, 0, 0, 0, 0), some (.putfield 114, 3, 10, 0, 966, 0), none, none, some (.aload_n 0, 1, 0, 0, 0, 0), some (.getfield 114, 3, 10, 0, 966, 0), none, none, some (.ifCond .le 5, 3, 41, 0, 0, 0), none, none, some (.iconst 0, 1, 0, 0, 0, 0), some (.ireturn, 1, 0, 0, 0, 0), some (.iload_n 3, 1, 0, 0, 0, 0), some (.ifCond .ge 7, 3, 49, 0, 0, 0), none, none, some (.iconst (-1), 1, 0, 0, 0, 0), some (.goto 8, 3, 54, 0, 0, 0), none, none, some (.aload_n 0, 1, 0, 0, 0, 0), some (.iload_n 3, 1, 0, 0, 0, 0), some (.invokevirtual 324, 3, 140, 2, 1343, 0), none, none, some (.istore 4, 2, 0, 0, 0, 0), none, some (.iload 4, 2, 0, 0, 0, 0), none, some (.ifCond .ge 11, 3, 69, 0, 0, 0), none, none, some (.aload_n 0, 1, 0, 0, 0, 0), some (.iconst 3, 1, 0, 0, 0, 0), some (.invokevirtual 210, 3, 93, 2, 1275, 0), none, none, some (.goto 5, 3, 71, 0, 0, 0), none, none, some (.iload 4, 2, 0, 0, 0, 0), none, some (.ireturn, 1, 0, 0, 0, 0)]
def am_q143 : List (Option am_I) := [some (.aload_n 0, 1, 0, 0, 0, 0), some (.iconst 0, 1, 0, 0, 0, 0), some (.putfield 114, 3, 10, 0, 966, 0), none, none, some (.aload_n 0, 1, 0, 0, 0, 0), some (.getfield 332, 3, 10, 38, 1004, 0), none, none, some (.bipush 40, 2, 0, 0, 0, 0), none, some (.if_icmp .eq 15, 3, 26, 0, 0, 0), none, none, some (.iload_n 1, 1, 0, 0, 0, 0), some (.bipush 32, 2, 0, 0, 0, 0), none, some (.if_icmp .lt 9, 3, 26, 0, 0, 0), none, none, some (.iload_n 1, 1, 0, 0, 0, 0), some (.bipush 126, 2, 0, 0, 0, 0), none, some (.if_icmp .le 5, 3, 28, 0, 0, 0), none, none, some (.iconst 0, 1, 0, 0, 0, 0), some (.ireturn, 1, 0, 0, 0, 0), some (.aload_n 0, 1, 0, 0, 0, 0), some (.getfield 75, 3, 10, 37, 1003, 0), none, none, some (.aload_n 0, 1, 0, 0, 0, 0), some (.getfield 332, 3, 10, 38, 1004, 0), none, none, some (.iload_n 1, 1, 0, 0, 0, 0), some (.iastore, 1, 0, 0, 0, 0), some (.aload_n 0, 1, 0, 0, 0, 0), some (.dup, 1, 0, 0, 0, 0), some (.getfield 332, 3, 10, 38, 1004, 0), none, none, some (.iconst 1, 1, 0, 0, 0, 0), some (.iadd, 1, 0, 0, 0, 0), some (.putfield 332, 3, 10, 38, 1004, 0), none, none, some (.iconst 1, 1, 0, 0, 0, 0), some (.ireturn, 1, 0, 0, 0, 0)]
def am_q144 : List (Option am_I) := [some (.iload_n 1, 1, 0, 0, 0, 0), some (.aload_n 0, 1, 0, 0, 0, 0), some (.getfield 332, 3, 10, 38, 1004, 0), none, none, some (.if_icmp .ge 12, 3, 17, 0, 0, 0), none, none, some (.aload_n 0, 1, 0, 0, 0, 0), some (.getfield 75, 3, 10, 37, 1003, 0), none, none, some (.iload_n 1, 1, 0, 0, 0, 0), some (.iaload, 1, 0, 0, 0, 0), some (.goto 4, 3, 18, 0, 0, 0), none, none, some (.iconst 0, 1, 0, 0, 0, 0), some (.ireturn, 1, 0, 0, 0, 0)]
def am_q145 : List (Option am_I) := [some (.iload_n 0, 1, 0, 0, 0, 0), some (.bipush 48, 2, 0, 0, 0, 0), none, some (.if_icmp .lt 13, 3, 16, 0, 0, 0), none, none, some (.iload_n 0, 1, 0, 0, 0, 0), some (.bipush 57, 2, 0, 0, 0, 0), none, some (.if_icmp .gt 7, 3, 16, 0, 0, 0), none, none, some (.iconst 1, 1, 0, 0, 0, 0), some (.goto 4, 3, 17, 0, 0, 0), none, none, some (.iconst 0, 1, 0, 0, 0, 0), some (.ireturn, 1, 0, 0, 0, 0)]
def am_q146 : List (Option am_I) := [some (.iload_n 0, 1, 0, 0, 0, 0), some (.bipush 97, 2, 0, 0, 0, 0), none, some (.if_icmp .lt 9, 3, 12, 0, 0, 0), none, none, some (.iload_n 0, 1, 0, 0, 0, 0), some (.bipush 122, 2, 0, 0, 0, 0), none, some (.if_icmp .le 10, 3, 19, 0, 0, 0), none, none, some (.iload_n 0, 1, 0, 0, 0, 0), some (.invokestatic 335, 3, 145, 1, 1375, 0), none, none, some (.ifCond .eq 7, 3, 23, 0, 0, 0), none, none, some (.iconst 1, 1, 0, 0, 0, 0), some (.goto 4, 3, 24, 0, 0, 0), none, none, some (.iconst 0, 1, 0, 0, 0, 0), some (.ireturn, 1, 0, 0, 0, 0)]
def am_q147 : List (Option am_I) := [some (.iload_n 0, 1, 0, 0, 0, 0), some (.bipush 61, 2, 0, 0, 0, 0), none, some (.if_icmp .eq 21, 3, 24, 0, 0, 0), none, none, some (.iload_n 0, 1, 0, 0, 0, 0), some (.bipush 35, 2, 0, 0, 0, 0), none, some (.if_icmp .eq 15, 3, 24, 0, 0, 0), none, none, some (.iload_n 0, 1, 0, 0, 0, 0), some (.bipush 60, 2, 0, 0, 0, 0), none, some (.if_icmp .eq 9, 3, 24, 0, 0, 0), none, none, some (.iload_n 0, 1, 0, 0, 0, 0), some (.bipush 62, 2, 0, 0, 0, 0), none, some (.if_icmp .ne 7, 3, 28, 0, 0, 0), none, none, some (.iconst 1, 1, 0, 0, 0, 0), some (.goto 4, 3, 29, 0, 0, 0), none, none, some (.iconst 0, 1, 0, 0, 0, 0), some (.ireturn, 1, 0, 0, 0, 0)]
def am_q148 : List (Option am_I) := [some (.iconst 0, 1, 0, 0, 0, 0), some (.istore_n 1, 1, 0, 0, 0, 0), some (.aload_n 0, 1, 0, 0, 0, 0), some (.iconst 0, 1, 0, 0, 0, 0), some (.putfield 338, 3, 10, 40, 1006, 0), none, none, some (.aload_n 0, 1, 0, 0, 0, 0), some (.iconst 0, 1, 0, 0, 0, 0), some (.putfield 341, 3, 10, 41, 1007, 0), none, none, some (.aload_n 0, 1, 0, 0, 0, 0), some (.iconst 0, 1, 0, 0, 0, 0), some (.invokevirtual 344, 3, 144, 2, 1364, 0), none, none, some (.bipush 65, 2, 0, 0, 0, 0), none, some (.if_icmp .lt 36, 3, 55, 0, 0, 0), none, none, some (.aload_n 0, 1, 0, 0, 0, 0), some (.iconst 0, 1, 0, 0, 0, 0), some (.invokevirtual 344, 3, 144, 2, 1364, 0), none, none, some (.bipush 90, 2, 0, 0, 0, 0), none, some (.if_icmp .gt 26, 3, 55, 0, 0, 0), none, none, some (.aload_n 0, 1, 0, 0, 0, 0), some (.iconst 1, 1, 0, 0, 0, 0), some (.invokevirtual 344, 3, 144, 2, 1364, 0), none, none, some (.bipush 58, 2, 0, 0, 0, 0), none, some (.if_icmp .eq 5, 3, 44, 0, 0, 0), none, none, some (.iconst 1, 1, 0, 0, 0, 0), some (.ireturn, 1, 0, 0, 0, 0), some (.aload_n 0, 1, 0, 0, 0, 0), some (.aload_n 0, 1, 0, 0, 0, 0), some (.iconst 0, 1, 0, 0, 0, 0), some (.invokevirtual 344, 3, 144, 2, 1364, 0), none, none, some (.putfield 338, 3, 10, 40, 1006, 0), none, none, some (.iconst 2, 1, 0, 0, 0, 0), some (.istore_n 1, 1, 0, 0, 0, 0), some (.iload_n 1, 1, 0, 0, 0, 0), some (.aload_n 0, 1, 0, 0, 0, 0), some (.getfield 332, 3, 10, 38, 1004, 0), none, none, some (.if_icmp .ne 5, 3, 65, 0, 0, 0), none, none, some (.iconst (-1), 1, 0, 0, 0, 0), some (.ireturn, 1, 0, 0, 0, 0), some (.iconst 0, 1, 0, 0, 0, 0), some (.istore_n 2, 1, 0, 0, 0, 0), some (.iload_n 2, 1, 0, 0, 0, 0), some (.bipush 10, 2, 0, 0, 0, 0), none, some (.if_icmp .gt 48, 3, 118, 0, 0, 0), none, none, some (.aload_n 0, 1, 0, 0, 0, 0), some (.iload_n 1, 1, 0, 0, 0, 0), some (.invokevirtual 347, 3, 149, 2, 1368, 0), none, none, some (.istore_n 1, 1, 0, 0, 0, 0), some (.iload_n 1, 1, 0, 0, 0, 0), some (.ifCond .ge 7, 3, 87, 0, 0, 0), none, none, some (.iconst (-1), 1, 0, 0, 0, 0), some (.iload_n 1, 1, 0, 0, 0, 0), some (.isub, 1, 0, 0, 0, 0), some (.ireturn, 1, 0, 0, 0, 0), some (.iload_n 1, 1, 0, 0, 0, 0), some (.aload_n 0, 1, 0, 0, 0, 0), some (.getfield 332, 3, 10, 38, 1004, 0), none, none, some (.if_icmp .ne 5, 3, 97, 0, 0, 0), none, none, some (.iconst (-1), 1, 0, 0, 0, 0), some (.ireturn, 1, 0, 0, 0, 0), some (.aload_n 0, 1, 0, 0, 0, 0), some (.iload_n 1, 1, 0, 0, 0, 0), some (.invokevirtual 344, 3, 144, 2, 1364, 0), none, none, some (.bipush 38, 2, 0, 0, 0, 0), none, some (.if_icmp .eq 5, 3, 109, 0, 0, 0), none, none, some (.iload_n 1, 1, 0, 0, 0, 0), some (.ireturn, 1, 0, 0, 0, 0), some (.iinc 1 1, 3, 0, 0, 0, 0), none, none, some (.iinc 2 1, 3, 0, 0, 0, 0), none, none, some (.goto (-48), 3, 67, 0, 0, 0), none, none, some (.iload_n 1, 1, 0, 0, 0, 0), some (.ireturn, 1, 0, 0, 0, 0)]
def am_q149 : List (Option am_I) := [some (.iload_n 1, 1, 0, 0, 0, 0), some (.istore_n 2, 1, 0, 0, 0, 0), some (.iconst 0, 1, 0, 0, 0, 0), some (.istore_n 3, 1, 0, 0, 0, 0), some (.iconst 0, 1, 0, 0, 0, 0), some (.istore 4, 2, 0, 0, 0, 0), none, some (.iconst 1, 1, 0, 0, 0, 0), some (.istore 5, 2, 0, 0, 0, 0), none, some (.iload 5, 2, 0, 0, 0, 0), none, some (.ifCond .eq 77, 3, 89, 0, 0, 0), none, none, some (.aload_n 0, 1, 0, 0, 0, 0), some (.iload_n 2, 1, 0, 0, 0, 0), some (.invokevirtual 344, 3, 144, 2, 1364, 0), none, none, some (.invokestatic 350, 3, 146, 1, 1372, 0), none, none, some (.ifCond .ne 7, 3, 30, 0, 0, 0), none, none, some (.iconst (-1), 1, 0, 0, 0, 0), some (.iload_n 2, 1, 0, 0, 0, 0), some (.isub, 1, 0, 0, 0, 0), some (.ireturn, 1, 0, 0, 0, 0), some (.iload 4, 2, 0, 0, 0, 0), none, some (.aload_n 0, 1, 0, 0, 0, 0), some (.iload_n 2, 1, 0, 0, 0, 0), some (.invokevirtual 344, 3, 144, 2, 1364, 0), none, none, some (.bipush 8, 2, 0, 0, 0, 0), none, some (.iload_n 3, 1, 0, 0, 0, 0), some (.imul, 1, 0, 0, 0, 0), some (.ishl, 1, 0, 0, 0, 0), some (.ior, 1, 0, 0, 0, 0), some (.istore 4, 2, 0, 0, 0, 0), none, some (.iinc 3 1, 3, 0, 0, 0, 0), none, none, some (.iinc 2 1, 3, 0, 0, 0, 0), none, none, some (.iload_n 3, 1, 0, 0, 0, 0), some (.iconst 4, 1, 0, 0, 0, 0), some (.if_icmp .ge 17, 3, 70, 0, 0, 0), none, none, some (.aload_n 0, 1, 0, 0, 0, 0), some (.iload_n 2, 1, 0, 0, 0, 0), some (.invokevirtual 344, 3, 144, 2, 1364, 0), none, none, some (.bipush 46, 2, 0, 0, 0, 0), none, some (.if_icmp .ne 7, 3, 70, 0, 0, 0), none, none, some (.iconst 1, 1, 0, 0, 0, 0), some (.goto 4, 3, 71, 0, 0, 0), none, none, some (.iconst 0, 1, 0, 0, 0, 0), some (.istore 5, 2, 0, 0, 0, 0), none, some (.iload_n 2, 1, 0, 0, 0, 0), some (.iload 5, 2, 0, 0, 0, 0), none, some (.ifCond .eq 7, 3, 83, 0, 0, 0), none, none, some (.iconst 1, 1, 0, 0, 0, 0), some (.goto 4, 3, 84, 0, 0, 0), none, none, some (.iconst 0, 1, 0, 0, 0, 0), some (.iadd, 1, 0, 0, 0, 0), some (.istore_n 2, 1, 0, 0, 0, 0), some (.goto (-76), 3, 10, 0, 0, 0), none, none, some (.aload_n 0, 1, 0, 0, 0, 0), some (.iload_n 2, 1, 0, 0, 0, 0), some (.invokevirtual 344, 3, 144, 2, 1364, 0), none, none, some (.invokestatic 353, 3, 147, 1, 1378, 0), none, none, some (.ifCond .ne 7, 3, 104, 0, 0, 0), none, none, some (.iconst (-1), 1, 0, 0, 0, 0), some (.iload_n 2, 1, 0, 0, 0, 0), some (.isub, 1, 0, 0, 0, 0), some (.ireturn, 1, 0, 0, 0, 0), some (.aload_n 0, 1, 0, 0, 0, 0), some (.iload_n 2, 1, 0, 0, 0, 0), some (.invokevirtual 344, 3, 144, 2, 1364, 0), none, none, some (.istore 6, 2, 0, 0, 0, 0), none, some (.iinc 2 1, 3, 0, 0, 0, 0), none, none, some (.aload_n 0, 1, 0, 0, 0, 0), some (.iload_n 2, 1, 0, 0, 0, 0), some (.invokevirtual 344, 3, 144, 2, 1364, 0), none, none, some (.bipush 45, 2, 0, 0, 0, 0), none, some (.if_icmp .ne 7, 3, 128, 0, 0, 0), none, none, some (.iconst 1, 1, 0, 0, 0, 0), some (.goto 4, 3, 129, 0, 0, 0), none, none, some (.iconst 0, 1, 0, 0, 0, 0), some (.istore 7, 2, 0, 0, 0, 0), none, some (.iload_n 2, 1, 0, 0, 0, 0), some (.iload 7, 2, 0, 0, 0, 0), none, some (.ifCond .eq 7, 3, 141, 0, 0, 0), none, none, some (.iconst 1, 1, 0, 0, 0, 0), some (.goto 4, 3, 142, 0, 0, 0), none, none, some (.iconst 0, 1, 0, 0, 0, 0), some (.iadd, 1, 0, 0, 0, 0), some (.istore_n 2, 1, 0, 0, 0, 0), some (.lconst 0, 1, 0, 0, 0, 0), some (.lstore 8, 2, 0, 0, 0, 0), none, some (.iconst 0, 1, 0, 0, 0, 0), some (.istore 10, 2, 0, 0, 0, 0), none, some (.iload 10, 2, 0, 0, 0, 0), none, some (.bipush 9, 2, 0, 0, 0, 0), none, some (.if_icmp .ge 42, 3, 196, 0, 0, 0), none, none, some (.aload_n 0, 1, 0, 0, 0, 0), some (.iload_n 2, 1, 0, 0, 0, 0), some (.invokevirtual 344, 3, 144, 2, 1364, 0), none, none, some (.invokestatic 335, 3, 145, 1, 1375, 0), none, none, some (.ifCond .eq 31, 3, 196, 0, 0, 0), none, none, some (.ldc2_w 173, 3, 0, 0, 1219, 10), none, none, some (.lload 8, 2, 0, 0, 0, 0), none, some (.lmul, 1, 0, 0, 0, 0), some (.aload_n 0, 1, 0, 0, 0, 0), some (.iload_n 2, 1, 0, 0, 0, 0), some (.invokevirtual 344, 3, 144, 2, 1364, 0), none, none, some (.i2l, 1, 0, 0, 0, 0), some (.ladd, 1, 0, 0, 0, 0), some (.ldc2_w 356, 3, 0, 0, 1381, 48), none, none, some (.lsub, 1, 0, 0, 0, 0), some (.lstore 8, 2, 0, 0, 0, 0), none, some (.iinc 10 1, 3, 0, 0, 0, 0), none, none, some (.iinc 2 1, 3, 0, 0, 0, 0), none, none, some (.goto (-43), 3, 150, 0, 0, 0), none, none, some (.iload 10, 2, 0, 0, 0, 0), none, some (.ifCond .ne 7, 3, 205, 0, 0, 0), none, none, some (.iconst (-1), 1, 0, 0, 0, 0), some (.iload_n 2, 1, 0, 0, 0, 0), some (.isub, 1, 0, 0, 0, 0), some (.ireturn, 1, 0, 0, 0, 0), some (.aload_n 0, 1, 0, 0, 0, 0), some (.getfield 81, 3, 10, 42, 1008, 0), none, none, some (.aload_n 0, 1, 0, 0, 0, 0), some (.getfield 341, 3, 10, 41, 1007, 0), none, none, some (.iload 4, 2, 0, 0, 0, 0), none, some (.iastore, 1, 0, 0, 0, 0), some (.aload_n 0, 1, 0, 0, 0, 0), some (.getfield 84, 3, 10, 43, 1009, 0), none, none, some (.aload_n 0, 1, 0, 0, 0, 0), some (.getfield 341, 3, 10, 41, 1007, 0), none, none, some (.iload 6, 2, 0, 0, 0, 0), none, some (.iastore, 1, 0, 0, 0, 0), some (.aload_n 0, 1, 0, 0, 0, 0), some (.getfield 87, 3, 10, 44, 1010, 0), none, none, some (.aload_n 0, 1, 0, 0, 0, 0), some (.getfield 341, 3, 10, 41, 1007, 0), none, none, some (.iload 7, 2, 0, 0, 0, 0), none, some (.ifCond .eq 9, 3, 246, 0, 0, 0), none, none, some (.lload 8, 2, 0, 0, 0, 0), none, some (.lneg, 1, 0, 0, 0, 0), some (.goto 5, 3, 248, 0, 0, 0), none, none, some (.lload 8, 2, 0, 0, 0, 0), none, some (.lastore, 1, 0, 0, 0, 0), some (.aload_n 0, 1, 0, 0, 0, 0), some (.dup, 1, 0, 0, 0, 0), some (.getfield 341, 3, 10, 41, 1007, 0), none, none, some (.iconst 1, 1, 0, 0, 0, 0), some (.iadd, 1, 0, 0, 0, 0), some (.putfield 341, 3, 10, 41, 1007, 0), none, none, some (.iload_n 2, 1, 0, 0, 0, 0), some (.ireturn, 1, 0, 0, 0, 0)]
def am_q150 : List (Option am_I) := [some (.aload_n 0, 1, 0, 0, 0, 0), some (.iload_n 1, 1, 0, 0, 0, 0), some (.iload_n 2, 1, 0, 0, 0, 0), some (.invokevirtual 321, 3, 137, 3, 1311, 0), none, none, some (.istore_n 3, 1, 0, 0, 0, 0), some (.iload_n 3, 1, 0, 0, 0, 0), some (.iconst 2, 1, 0, 0, 0, 0), some (.if_icmp .lt 13, 3, 22, 0, 0, 0), none, none, some (.iload_n 3, 1, 0, 0, 0, 0), some (.bipush 7, 2, 0, 0, 0, 0), none, some (.if_icmp .gt 7, 3, 22, 0, 0, 0), none, none, some (.iconst 1, 1, 0, 0, 0, 0), some (.goto 4, 3, 23, 0, 0, 0), none, none, some (.iconst 0, 1, 0, 0, 0, 0), some (.ireturn, 1, 0, 0, 0, 0)]
def am_q151 : List (Option am_I) := [some (.aload_n 0, 1, 0, 0, 0, 0), some (.iload_n 1, 1, 0, 0, 0, 0), some (.invokevirtual 286, 3, 128, 2, 1295, 0), none, none, some (.aload_n 0, 1, 0, 0, 0, 0), some (.getfield 338, 3, 10, 40, 1006, 0), none, none, some (.ifCond .eq 24, 3, 33, 0, 0, 0), none, none, some (.aload_n 0, 1, 0, 0, 0, 0), some (.getfield 41, 3, 10, 13, 979, 0), none, none, some (.aload_n 0, 1, 0, 0, 0, 0), some (.aload_n 0, 1, 0, 0, 0, 0), some (.getfield 236, 3, 10, 56, 1022, 0), none, none, some (.iconst 1, 1, 0, 0, 0, 0), some (.invokevirtual 179, 3, 102, 3, 1199, 0), none, none, some (.iaload, 1, 0, 0, 0, 0), some (.aload_n 0, 1, 0, 0, 0, 0), some (.getfield 338, 3, 10, 40, 1006, 0), none, none, some (.if_icmp .ne 7, 3, 37, 0, 0, 0), none, none, some (.iconst 1, 1, 0, 0, 0, 0), some (.goto 4, 3, 38, 0, 0, 0), none, none, some (.iconst 0, 1, 0, 0, 0, 0), some (.istore_n 2, 1, 0, 0, 0, 0), some (.iconst 0, 1, 0, 0, 0, 0), some (.istore_n 3, 1, 0, 0, 0, 0), some (.iload_n 3, 1, 0, 0, 0, 0), some (.aload_n 0, 1, 0, 0, 0, 0), some (.getfield 341, 3, 10, 41, 1007, 0), none, none, some (.if_icmp .ge 135, 3, 181, 0, 0, 0), none, none, some (.iload_n 2, 1, 0, 0, 0, 0), some (.ifCond .eq 131, 3, 181, 0, 0, 0), none, none, some (.aload_n 0, 1, 0, 0, 0, 0), some (.iload_n 1, 1, 0, 0, 0, 0), some (.aload_n 0, 1, 0, 0, 0, 0), some (.getfield 81, 3, 10, 42, 1008, 0), none, none, some (.iload_n 3, 1, 0, 0, 0, 0), some (.iaload, 1, 0, 0, 0, 0), some (.invokevirtual 358, 3, 150, 3, 1386, 0), none, none, some (.istore_n 2, 1, 0, 0, 0, 0), some (.iload_n 2, 1, 0, 0, 0, 0), some (.ifCond .eq 10, 3, 76, 0, 0, 0), none, none, some (.aload_n 0, 1, 0, 0, 0, 0), some (.invokevirtual 329, 3, 139, 1, 1339, 0), none, none, some (.goto 4, 3, 77, 0, 0, 0), none, none, some (.lconst 0, 1, 0, 0, 0, 0), some (.lstore 4, 2, 0, 0, 0, 0), none, some (.aload_n 0, 1, 0, 0, 0, 0), some (.getfield 84, 3, 10, 43, 1009, 0), none, none, some (.iload_n 3, 1, 0, 0, 0, 0), some (.iaload, 1, 0, 0, 0, 0), some (.istore 6, 2, 0, 0, 0, 0), none, some (.iload_n 2, 1, 0, 0, 0, 0), some (.ifCond .eq 85, 3, 173, 0, 0, 0), none, none, some (.iload 6, 2, 0, 0, 0, 0), none, some (.bipush 61, 2, 0, 0, 0, 0), none, some (.if_icmp .ne 18, 3, 113, 0, 0, 0), none, none, some (.lload 4, 2, 0, 0, 0, 0), none, some (.aload_n 0, 1, 0, 0, 0, 0), some (.getfield 87, 3, 10, 44, 1010, 0), none, none, some (.iload_n 3, 1, 0, 0, 0, 0), some (.laload, 1, 0, 0, 0, 0), some (.lcmp, 1, 0, 0, 0, 0), some (.ifCond .ne 66, 3, 173, 0, 0, 0), none, none, some (.goto 59, 3, 169, 0, 0, 0), none, none, some (.iload 6, 2, 0, 0, 0, 0), none, some (.bipush 35, 2, 0, 0, 0, 0), none, some (.if_icmp .ne 18, 3, 135, 0, 0, 0), none, none, some (.lload 4, 2, 0, 0, 0, 0), none, some (.aload_n 0, 1, 0, 0, 0, 0), some (.getfield 87, 3, 10, 44, 1010, 0), none, none, some (.iload_n 3, 1, 0, 0, 0, 0), some (.laload, 1, 0, 0, 0, 0), some (.lcmp, 1, 0, 0, 0, 0), some (.ifCond .eq 44, 3, 173, 0, 0, 0), none, none, some (.goto 37, 3, 169, 0, 0, 0), none, none, some (.iload 6, 2, 0, 0, 0, 0), none, some (.bipush 60, 2, 0, 0, 0, 0), none, some (.if_icmp .ne 18, 3, 157, 0, 0, 0), none, none, some (.lload 4, 2, 0, 0, 0, 0), none, some (.aload_n 0, 1, 0, 0, 0, 0), some (.getfield 87, 3, 10, 44, 1010, 0), none, none, some (.iload_n 3, 1, 0, 0, 0, 0), some (.laload, 1, 0, 0, 0, 0), some (.lcmp, 1, 0, 0, 0, 0), some (.ifCond .ge 22, 3, 173, 0, 0, 0), none, none, some (.goto 15, 3, 169, 0, 0, 0), none, none, some (.lload 4, 2, 0, 0, 0, 0), none, some (.aload_n 0, 1, 0, 0, 0, 0), some (.getfield 87, 3, 10, 44, 1010, 0), none, none, some (.iload_n 3, 1, 0, 0, 0, 0), some (.laload, 1, 0, 0, 0, 0), some (.lcmp, 1, 0, 0, 0, 0), some (.ifCond .le 7, 3, 173, 0, 0, 0), none, none, some (.iconst 1, 1, 0, 0, 0, 0), some (.goto 4, 3, 174, 0, 0, 0), none, none, some (.iconst 0, 1, 0, 0, 0, 0), some (.istore_n 2, 1, 0, 0, 0, 0), some (.iinc 3 1, 3, 0, 0, 0, 0), none, none, some (.goto (-137), 3, 41, 0, 0, 0), none, none, some (.iload_n 2, 1, 0, 0, 0, 0), some (.ireturn, 1, 0, 0, 0, 0)]
def am_q152 : List (Option am_I) := [some (.aload_n 0, 1, 0, 0, 0, 0), some (.iconst 0, 1, 0, 0, 0, 0), some (.putfield 114, 3, 10, 0, 966, 0), none, none, some (.aload_n 0, 1, 0, 0, 0, 0), some (.aload_n 0, 1, 0, 0, 0, 0), some (.invokevirtual 362, 3, 148, 1, 1360, 0), none, none, some (.putfield 78, 3, 10, 39, 1005, 0), none, none, some (.aload_n 0, 1, 0, 0, 0, 0), some (.iconst 0, 1, 0, 0, 0, 0), some (.putfield 332, 3, 10, 38, 1004, 0), none, none, some (.aload_n 0, 1, 0, 0, 0, 0), some (.getfield 78, 3, 10, 39, 1005, 0), none, none, some (.ifCond .lt 9, 3, 31, 0, 0, 0), none, none, some (.aload_n 0, 1, 0, 0, 0, 0), some (.iconst 1, 1, 0, 0, 0, 0), some (.invokevirtual 210, 3, 93, 2, 1275, 0), none, none, some (.ireturn, 1, 0, 0, 0, 0), some (.iload_n 1, 1, 0, 0, 0, 0), some (.ifCond .eq 15, 3, 47, 0, 0, 0), none, none, some (.aload_n 0, 1, 0, 0, 0, 0), some (.getfield 25, 3, 10, 8, 974, 0), none, none, some (.aload_n 0, 1, 0, 0, 0, 0), some (.getfield 201, 3, 10, 3, 969, 0), none, none, some (.iaload, 1, 0, 0, 0, 0), some (.goto 7, 3, 51, 0, 0, 0), none, none, some (.aload_n 0, 1, 0, 0, 0, 0), some (.getfield 213, 3, 10, 45, 1011, 0), none, none, some (.istore_n 2, 1, 0, 0, 0, 0), some (.iconst 0, 1, 0, 0, 0, 0), some (.istore_n 3, 1, 0, 0, 0, 0), some (.iconst 0, 1, 0, 0, 0, 0), some (.istore 4, 2, 0, 0, 0, 0), none, some (.iload 4, 2, 0, 0, 0, 0), none, some (.iload_n 2, 1, 0, 0, 0, 0), some (.if_icmp .ge 47, 3, 107, 0, 0, 0), none, none, some (.iload_n 1, 1, 0, 0, 0, 0), some (.ifCond .eq 8, 3, 72, 0, 0, 0), none, none, some (.iload 4, 2, 0, 0, 0, 0), none, some (.goto 10, 3, 79, 0, 0, 0), none, none, some (.aload_n 0, 1, 0, 0, 0, 0), some (.getfield 90, 3, 10, 46, 1012, 0), none, none, some (.iload 4, 2, 0, 0, 0, 0), none, some (.iaload, 1, 0, 0, 0, 0), some (.istore 5, 2, 0, 0, 0, 0), none, some (.aload_n 0, 1, 0, 0, 0, 0), some (.iload 5, 2, 0, 0, 0, 0), none, some (.invokevirtual 365, 3, 151, 2, 1382, 0), none, none, some (.ifCond .eq 14, 3, 101, 0, 0, 0), none, none, some (.aload_n 0, 1, 0, 0, 0, 0), some (.getfield 90, 3, 10, 46, 1012, 0), none, none, some (.iload_n 3, 1, 0, 0, 0, 0), some (.iload 5, 2, 0, 0, 0, 0), none, some (.iastore, 1, 0, 0, 0, 0), some (.iinc 3 1, 3, 0, 0, 0, 0), none, none, some (.iinc 4 1, 3, 0, 0, 0, 0), none, none, some (.goto (-47), 3, 57, 0, 0, 0), none, none, some (.aload_n 0, 1, 0, 0, 0, 0), some (.iload_n 3, 1, 0, 0, 0, 0), some (.putfield 213, 3, 10, 45, 1011, 0), none, none, some (.aload_n 0, 1, 0, 0, 0, 0), some (.iconst 0, 1, 0, 0, 0, 0), some (.putfield 216, 3, 10, 49, 1015, 0), none, none, some (.iload_n 3, 1, 0, 0, 0, 0), some (.ireturn, 1, 0, 0, 0, 0)]
def am_q153 : List (Option am_I) := [some (.aload_n 0, 1, 0, 0, 0, 0), some (.iconst 0, 1, 0, 0, 0, 0), some (.putfield 114, 3, 10, 0, 966, 0), none, none, some (.aload_n 0, 1, 0, 0, 0, 0), some (.getfield 78, 3, 10, 39, 1005, 0), none, none, some (.ireturn, 1, 0, 0, 0, 0)]
def am_q154 : List (Option am_I) := [some (.aload_n 0, 1, 0, 0, 0, 0), some (.iload_n 1, 1, 0, 0, 0, 0), some (.ifCond .lt 11, 3, 13, 0, 0, 0), none, none, some (.iload_n 1, 1, 0, 0, 0, 0), some (.aload_n 0, 1, 0, 0, 0, 0), some (.getfield 213, 3, 10, 45, 1011, 0), none, none, some (.if_icmp .lt 7, 3, 17, 0, 0, 0), none, none, some (.iconst 1, 1, 0, 0, 0, 0), some (.goto 4, 3, 18, 0, 0, 0), none, none, some (.iconst 0, 1, 0, 0, 0, 0), some (.putfield 114, 3, 10, 0, 966, 0), none, none, some (.aload_n 0, 1, 0, 0, 0, 0), some (.getfield 114, 3, 10, 0, 966, 0), none, none, some (.ifCond .le 7, 3, 32, 0, 0, 0), none, none, some (.iconst 0, 1, 0, 0, 0, 0), some (.goto 9, 3, 38, 0, 0, 0), none, none, some (.aload_n 0, 1, 0, 0, 0, 0), some (.getfield 90, 3, 10, 46, 1012, 0), none, none, some (.iload_n 1, 1, 0, 0, 0, 0), some (.iaload, 1, 0, 0, 0, 0), some (.ireturn, 1, 0, 0, 0, 0)]
def am_q155 : List (Option am_I) := [some (.aload_n 0, 1, 0, 0, 0, 0), some (.iconst 0, 1, 0, 0, 0, 0), some (.putfield 368, 3, 10, 47, 1013, 0), none, none, some (.iconst 0, 1, 0, 0, 0, 0), some (.istore_n 2, 1, 0, 0, 0, 0), some (.iload_n 2, 1, 0, 0, 0, 0), some (.aload_n 0, 1, 0, 0, 0, 0), some (.getfield 213, 3, 10, 45, 1011, 0), none, none, some (.if_icmp .ge 93, 3, 105, 0, 0, 0), none, none, some (.aload_n 0, 1, 0, 0, 0, 0), some (.aload_n 0, 1, 0, 0, 0, 0), some (.getfield 90, 3, 10, 46, 1012, 0), none, none, some (.iload_n 2, 1, 0, 0, 0, 0), some (.iaload, 1, 0, 0, 0, 0), some (.iload_n 1, 1, 0, 0, 0, 0), some (.invokevirtual 358, 3, 150, 3, 1386, 0), none, none, some (.ifCond .eq 73, 3, 99, 0, 0, 0), none, none, some (.aload_n 0, 1, 0, 0, 0, 0), some (.invokevirtual 329, 3, 139, 1, 1339, 0), none, none, some (.lstore_n 3, 1, 0, 0, 0, 0), some (.aload_n 0, 1, 0, 0, 0, 0), some (.getfield 368, 3, 10, 47, 1013, 0), none, none, some (.istore 5, 2, 0, 0, 0, 0), none, some (.iload 5, 2, 0, 0, 0, 0), none, some (.ifCond .le 39, 3, 81, 0, 0, 0), none, none, some (.aload_n 0, 1, 0, 0, 0, 0), some (.getfield 93, 3, 10, 48, 1014, 0), none, none, some (.iload 5, 2, 0, 0, 0, 0), none, some (.iconst 1, 1, 0, 0, 0, 0), some (.isub, 1, 0, 0, 0, 0), some (.laload, 1, 0, 0, 0, 0), some (.lload_n 3, 1, 0, 0, 0, 0), some (.lcmp, 1, 0, 0, 0, 0), some (.ifCond .le 25, 3, 81, 0, 0, 0), none, none, some (.aload_n 0, 1, 0, 0, 0, 0), some (.getfield 93, 3, 10, 48, 1014, 0), none, none, some (.iload 5, 2, 0, 0, 0, 0), none, some (.aload_n 0, 1, 0, 0, 0, 0), some (.getfield 93, 3, 10, 48, 1014, 0), none, none, some (.iload 5, 2, 0, 0, 0, 0), none, some (.iconst 1, 1, 0, 0, 0, 0), some (.isub, 1, 0, 0, 0, 0), some (.laload, 1, 0, 0, 0, 0), some (.lastore, 1, 0, 0, 0, 0), some (.iinc 5 (-1), 3, 0, 0, 0, 0), none, none, some (.goto (-38), 3, 40, 0, 0, 0), none, none, some (.aload_n 0, 1, 0, 0, 0, 0), some (.getfield 93, 3, 10, 48, 1014, 0), none, none, some (.iload 5, 2, 0, 0, 0, 0), none, some (.lload_n 3, 1, 0, 0, 0, 0), some (.lastore, 1, 0, 0, 0, 0), some (.aload_n 0, 1, 0, 0, 0, 0), some (.dup, 1, 0, 0, 0, 0), some (.getfield 368, 3, 10, 47, 1013, 0), none, none, some (.iconst 1, 1, 0, 0, 0, 0), some (.iadd, 1, 0, 0, 0, 0), some (.putfield 368, 3, 10, 47, 1013, 0), none, none, some (.iinc 2 1, 3, 0, 0, 0, 0), none, none, some (.goto (-95), 3, 7, 0, 0, 0), none, none, some (.return_, 1, 0, 0, 0, 0)]
def am_q156 : List (Option am_I) := [some (.lconst 0, 1, 0, 0, 0, 0), some (.lstore_n 1, 1, 0, 0, 0, 0), some (.lconst 0, 1, 0, 0, 0, 0), some (.lstore_n 3, 1, 0, 0, 0, 0), some (.iconst 0, 1, 0, 0, 0, 0), some (.istore 5, 2, 0, 0, 0, 0), none, some (.iload 5, 2, 0, 0, 0, 0), none, some (.aload_n 0, 1, 0, 0, 0, 0), some (.getfield 368, 3, 10, 47, 1013, 0), none, none, some (.if_icmp .ge 50, 3, 63, 0, 0, 0), none, none, some (.aload_n 0, 1, 0, 0, 0, 0), some (.getfield 93, 3, 10, 48, 1014, 0), none, none, some (.iload 5, 2, 0, 0, 0, 0), none, some (.laload, 1, 0, 0, 0, 0), some (.aload_n 0, 1, 0, 0, 0, 0), some (.getfield 368, 3, 10, 47, 1013, 0), none, none, some (.i2l, 1, 0, 0, 0, 0), some (.invokestatic 277, 3, 129, 2, 1303, 0), none, none, some (.lstore 6, 2, 0, 0, 0, 0), none, some (.lload_n 1, 1, 0, 0, 0, 0), some (.lload 6, 2, 0, 0, 0, 0), none, some (.ladd, 1, 0, 0, 0, 0), some (.lstore_n 1, 1, 0, 0, 0, 0), some (.lload_n 3, 1, 0, 0, 0, 0), some (.aload_n 0, 1, 0, 0, 0, 0), some (.getfield 93, 3, 10, 48, 1014, 0), none, none, some (.iload 5, 2, 0, 0, 0, 0), none, some (.laload, 1, 0, 0, 0, 0), some (.lload 6, 2, 0, 0, 0, 0), none, some (.aload_n 0, 1, 0, 0, 0, 0), some (.getfield 368, 3, 10, 47, 1013, 0), none, none, some (.i2l, 1, 0, 0, 0, 0), some (.lmul, 1, 0, 0, 0, 0), some (.lsub, 1, 0, 0, 0, 0), some (.ladd, 1, 0, 0, 0, 0), some (.lstore_n 3, 1, 0, 0, 0, 0), some (.iinc 5 1, 3, 0, 0, 0, 0), none, none, some (.goto (-53), 3, 7, 0, 0, 0), none, none, some (.lload_n 1, 1, 0, 0, 0, 0), some (.lload_n 3, 1, 0, 0, 0, 0), some (.aload_n 0, 1, 0, 0, 0, 0), some (.getfield 368, 3, 10, 47, 1013, 0), none, none, some (.i2l, 1, 0, 0, 0, 0), some (.ldiv, 1, 0, 0, 0, 0), some (.ladd, 1, 0, 0, 0, 0), some (.lstore_n 1, 1, 0, 0, 0, 0), some (.ldc2_w 264, 3, 0, 0, 1220, 2), none, none, some (.lload_n 3, 1, 0, 0, 0, 0), some (.aload_n 0, 1, 0, 0, 0, 0), some (.getfield 368, 3, 10, 47, 1013, 0), none, none, some (.i2l, 1, 0, 0, 0, 0), some (.lrem, 1, 0, 0, 0, 0), some (.lmul, 1, 0, 0, 0, 0), some (.lstore 5, 2, 0, 0, 0, 0), none, some (.lload 5, 2, 0, 0, 0, 0), none, some (.aload_n 0, 1, 0, 0, 0, 0), some (.getfield 368, 3, 10, 47, 1013, 0), none, none, some (.i2l, 1, 0, 0, 0, 0), some (.lcmp, 1, 0, 0, 0, 0), some (.ifCond .gt 20, 3, 114, 0, 0, 0), none, none, some (.lload 5, 2, 0, 0, 0, 0), none, some (.aload_n 0, 1, 0, 0, 0, 0), some (.getfield 368, 3, 10, 47, 1013, 0), none, none, some (.i2l, 1, 0, 0, 0, 0), some (.lcmp, 1, 0, 0, 0, 0), some (.ifCond .ne 13, 3, 118, 0, 0, 0), none, none, some (.lload_n 1, 1, 0, 0, 0, 0), some (.lconst 0, 1, 0, 0, 0, 0), some (.lcmp, 1, 0, 0, 0, 0), some (.ifCond .lt 7, 3, 118, 0, 0, 0), none, none, some (.iconst 1, 1, 0, 0, 0, 0), some (.goto 4, 3, 119, 0, 0, 0), none, none, some (.iconst 0, 1, 0, 0, 0, 0), some (.istore 7, 2, 0, 0, 0, 0), none, some (.iload 7, 2, 0, 0, 0, 0), none, some (.ifCond .eq 9, 3, 132, 0, 0, 0), none, none, some (.lload_n 1, 1, 0, 0, 0, 0), some (.lconst 1, 1, 0, 0, 0, 0), some (.ladd, 1, 0, 0, 0, 0), some (.goto 4, 3, 133, 0, 0, 0), none, none, some (.lload_n 1, 1, 0, 0, 0, 0), some (.lreturn, 1, 0, 0, 0, 0)]
def am_q157 : List (Option am_I) := [some (.aload_n 0, 1, 0, 0, 0, 0), some (.iload_n 1, 1, 0, 0, 0, 0), some (.ifCond .lt 8, 3, 10, 0, 0, 0), none, none, some (.iload_n 1, 1, 0, 0, 0, 0), some (.iconst 4, 1, 0, 0, 0, 0), some (.if_icmp .le 16, 3, 23, 0, 0, 0), none, none, some (.iload_n 1, 1, 0, 0, 0, 0), some (.bipush 100, 2, 0, 0, 0, 0), none, some (.if_icmp .lt 14, 3, 27, 0, 0, 0), none, none, some (.iload_n 1, 1, 0, 0, 0, 0), some (.sipush 200, 3, 0, 0, 0, 0), none, none, some (.if_icmp .gt 7, 3, 27, 0, 0, 0), none, none, some (.iconst 0, 1, 0, 0, 0, 0), some (.goto 4, 3, 28, 0, 0, 0), none, none, some (.iconst 1, 1, 0, 0, 0, 0), some (.putfield 114, 3, 10, 0, 966, 0), none, none, some (.aload_n 0, 1, 0, 0, 0, 0), some (.getfield 114, 3, 10, 0, 966, 0), none, none, some (.ifCond .le 5, 3, 40, 0, 0, 0), none, none, some (.lconst 0, 1, 0, 0, 0, 0), some (.lreturn, 1, 0, 0, 0, 0), some (.aload_n 0, 1, 0, 0, 0, 0), some (.iload_n 2, 1, 0, 0, 0, 0), some (.invokevirtual 371, 3, 155, 2, 1402, 0), none, none, some (.aload_n 0, 1, 0, 0, 0, 0), some (.getfield 368, 3, 10, 47, 1013, 0), none, none, some (.ifCond .ne 15, 3, 64, 0, 0, 0), none, none, some (.iload_n 1, 1, 0, 0, 0, 0), some (.iconst 1, 1, 0, 0, 0, 0), some (.if_icmp .le 10, 3, 64, 0, 0, 0), none, none, some (.aload_n 0, 1, 0, 0, 0, 0), some (.iconst 2, 1, 0, 0, 0, 0), some (.invokevirtual 210, 3, 93, 2, 1275, 0), none, none, some (.i2l, 1, 0, 0, 0, 0), some (.lreturn, 1, 0, 0, 0, 0), some (.iload_n 1, 1, 0, 0, 0, 0), some (.ifCond .ne 9, 3, 74, 0, 0, 0), none, none, some (.aload_n 0, 1, 0, 0, 0, 0), some (.getfield 368, 3, 10, 47, 1013, 0), none, none, some (.i2l, 1, 0, 0, 0, 0), some (.lreturn, 1, 0, 0, 0, 0), some (.iload_n 1, 1, 0, 0, 0, 0), some (.iconst 2, 1, 0, 0, 0, 0), some (.if_icmp .ne 10, 3, 86, 0, 0, 0), none, none, some (.aload_n 0, 1, 0, 0, 0, 0), some (.getfield 93, 3, 10, 48, 1014, 0), none, none, some (.iconst 0, 1, 0, 0, 0, 0), some (.laload, 1, 0, 0, 0, 0), some (.lreturn, 1, 0, 0, 0, 0), some (.iload_n 1, 1, 0, 0, 0, 0), some (.iconst 3, 1, 0, 0, 0, 0), some (.if_icmp .ne 15, 3, 103, 0, 0, 0), none, none, some (.aload_n 0, 1, 0, 0, 0, 0), some (.getfield 93, 3, 10, 48, 1014, 0), none, none, some (.aload_n 0, 1, 0, 0, 0, 0), some (.getfield 368, 3, 10, 47, 1013, 0), none, none, some (.iconst 1, 1, 0, 0, 0, 0), some (.isub, 1, 0, 0, 0, 0), some (.laload, 1, 0, 0, 0, 0), some (.lreturn, 1, 0, 0, 0, 0), some (.iload_n 1, 1, 0, 0, 0, 0), some (.iconst 4, 1, 0, 0, 0, 0), some (.if_icmp .ne 8, 3, 113, 0, 0, 0), none, none, some (.aload_n 0, 1, 0, 0, 0, 0), some (.invokevirtual 374, 3, 156, 1, 1406, 0), none, none, some (.lreturn, 1, 0, 0, 0, 0), some (.iload_n 1, 1, 0, 0, 0, 0), some (.iconst 4, 1, 0, 0, 0, 0), some (.if_icmp .le 36, 3, 151, 0, 0, 0), none, none, some (.iload_n 1, 1, 0, 0, 0, 0), some (.bipush 100, 2, 0, 0, 0, 0), none, some (.isub, 1, 0, 0, 0, 0), some (.aload_n 0, 1, 0, 0, 0, 0), some (.getfield 368, 3, 10, 47, 1013, 0), none, none, some (.imul, 1, 0, 0, 0, 0), some (.bipush 99, 2, 0, 0, 0, 0), none, some (.iadd, 1, 0, 0, 0, 0), some (.bipush 100, 2, 0, 0, 0, 0), none, some (.idiv, 1, 0, 0, 0, 0), some (.iconst 1, 1, 0, 0, 0, 0), some (.isub, 1, 0, 0, 0, 0), some (.istore_n 3, 1, 0, 0, 0, 0), some (.aload_n 0, 1, 0, 0, 0, 0), some (.getfield 93, 3, 10, 48, 1014, 0), none, none, some (.iload_n 3, 1, 0, 0, 0, 0), some (.ifCond .ge 7, 3, 148, 0, 0, 0), none, none, some (.iconst 0, 1, 0, 0, 0, 0), some (.goto 4, 3, 149, 0, 0, 0), none, none, some (.iload_n 3, 1, 0, 0, 0, 0), some (.laload, 1, 0, 0, 0, 0), some (.lreturn, 1, 0, 0, 0, 0), some (.lconst 0, 1, 0, 0, 0, 0), some (.lstore_n 3, 1, 0, 0, 0, 0), some (.iconst 0, 1, 0, 0, 0, 0), some (.istore 5, 2, 0, 0, 0, 0), none, some (.iload 5, 2, 0, 0, 0, 0), none, some (.aload_n 0, 1, 0, 0, 0, 0), some (.getfield 368, 3, 10, 47, 1013, 0), none, none, some (.if_icmp .ge 19, 3, 181, 0, 0, 0), none, none, some (.lload_n 3, 1, 0, 0, 0, 0), some (.aload_n 0, 1, 0, 0, 0, 0), some (.getfield 93, 3, 10, 48, 1014, 0), none, none, some (.iload 5, 2, 0, 0, 0, 0), none, some (.laload, 1, 0, 0, 0, 0), some (.ladd, 1, 0, 0, 0, 0), some (.lstore_n 3, 1, 0, 0, 0, 0), some (.iinc 5 1, 3, 0, 0, 0, 0), none, none, some (.goto (-22), 3, 156, 0, 0, 0), none, none, some (.lload_n 3, 1, 0, 0, 0, 0), some (.lreturn, 1, 0, 0, 0, 0)]
def am_q158 : List (Option am_I) := [some (.iconst 0, 1, 0, 0, 0, 0), some (.istore_n 3, 1, 0, 0, 0, 0), some (.iload_n 3, 1, 0, 0, 0, 0), some (.aload_n 0, 1, 0, 0, 0, 0), some (.getfield 216, 3, 10, 49, 1015, 0), none, none, some (.if_icmp .ge 22, 3, 29, 0, 0, 0), none, none, some (.aload_n 0, 1, 0, 0, 0, 0), some (.getfield 96, 3, 10, 50, 1016, 0), none, none, some (.iload_n 3, 1, 0, 0, 0, 0), some (.laload, 1, 0, 0, 0, 0), some (.lload_n 1, 1, 0, 0, 0, 0), some (.lcmp, 1, 0, 0, 0, 0), some (.ifCond .ne 5, 3, 23, 0, 0, 0), none, none, some (.iload_n 3, 1, 0, 0, 0, 0), some (.ireturn, 1, 0, 0, 0, 0), some (.iinc 3 1, 3, 0, 0, 0, 0), none, none, some (.goto (-24), 3, 2, 0, 0, 0), none, none, some (.aload_n 0, 1, 0, 0, 0, 0), some (.getfield 216, 3, 10, 49, 1015, 0), none, none, some (.istore_n 3, 1, 0, 0, 0, 0), some (.aload_n 0, 1, 0, 0, 0, 0), some (.dup, 1, 0, 0, 0, 0), some (.getfield 216, 3, 10, 49, 1015, 0), none, none, some (.iconst 1, 1, 0, 0, 0, 0), some (.iadd, 1, 0, 0, 0, 0), some (.putfield 216, 3, 10, 49, 1015, 0), none, none, some (.aload_n 0, 1, 0, 0, 0, 0), some (.getfield 96, 3, 10, 50, 1016, 0), none, none, some (.iload_n 3, 1, 0, 0, 0, 0), some (.lload_n 1, 1, 0, 0, 0, 0), some (.lastore, 1, 0, 0, 0, 0), some (.aload_n 0, 1, 0, 0, 0, 0), some (.getfield 99, 3, 10, 51, 1017, 0), none, none, some (.iload_n 3, 1, 0, 0, 0, 0), some (.iconst 0, 1, 0, 0, 0, 0), some (.iastore, 1, 0, 0, 0, 0), some (.aload_n 0, 1, 0, 0, 0, 0), some (.getfield 102, 3, 10, 52, 1018, 0), none, none, some (.iload_n 3, 1, 0, 0, 0, 0), some (.iconst 0, 1, 0, 0, 0, 0), some (.iastore, 1, 0, 0, 0, 0), some (.aload_n 0, 1, 0, 0, 0, 0), some (.getfield 105, 3, 10, 53, 1019, 0), none, none, some (.iload_n 3, 1, 0, 0, 0, 0), some (.lconst 0, 1, 0, 0, 0, 0), some (.lastore, 1, 0, 0, 0, 0), some (.aload_n 0, 1, 0, 0, 0, 0), some (.getfield 108, 3, 10, 54, 1020, 0), none, none, some (.iload_n 3, 1, 0, 0, 0, 0), some (.lconst 0, 1, 0, 0, 0, 0), some (.lastore, 1, 0, 0, 0, 0), some (.aload_n 0, 1, 0, 0, 0, 0), some (.getfield 111, 3, 10, 55, 1021, 0), none, none, some (.iload_n 3, 1, 0, 0, 0, 0), some (.lconst 0, 1, 0, 0, 0, 0), some (.lastore, 1, 0, 0, 0, 0), some (.iload_n 3, 1, 0, 0, 0, 0), some (.ireturn, 1, 0, 0, 0, 0)]
def am_q159 : List (Option am_I) := [some (.aload_n 0, 1, 0, 0, 0, 0), some (.iconst 0, 1, 0, 0, 0, 0), some (.putfield 114, 3, 10, 0, 966, 0), none, none, some (.aload_n 0, 1, 0, 0, 0, 0), some (.iconst 0, 1, 0, 0, 0, 0), some (.putfield 216, 3, 10, 49, 1015, 0), none, none, some (.iconst 0, 1, 0, 0, 0, 0), some (.istore_n 3, 1, 0, 0, 0, 0), some (.iload_n 3, 1, 0, 0, 0, 0), some (.aload_n 0, 1, 0, 0, 0, 0), some (.getfield 213, 3, 10, 45, 1011, 0), none, none, some (.if_icmp .ge 68, 3, 85, 0, 0, 0), none, none, some (.aload_n 0, 1, 0, 0, 0, 0), some (.aload_n 0, 1, 0, 0, 0, 0), some (.getfield 90, 3, 10, 46, 1012, 0), none, none, some (.iload_n 3, 1, 0, 0, 0, 0), some (.iaload, 1, 0, 0, 0, 0), some (.iload_n 1, 1, 0, 0, 0, 0), some (.invokevirtual 358, 3, 150, 3, 1386, 0), none, none, some (.ifCond .eq 48, 3, 79, 0, 0, 0), none, none, some (.aload_n 0, 1, 0, 0, 0, 0), some (.aload_n 0, 1, 0, 0, 0, 0), some (.invokevirtual 329, 3, 139, 1, 1339, 0), none, none, some (.invokevirtual 377, 3, 158, 2, 1414, 0), none, none, some (.istore 4, 2, 0, 0, 0, 0), none, some (.aload_n 0, 1, 0, 0, 0, 0), some (.getfield 99, 3, 10, 51, 1017, 0), none, none, some (.iload 4, 2, 0, 0, 0, 0), none, some (.dup2, 1, 0, 0, 0, 0), some (.iaload, 1, 0, 0, 0, 0), some (.iconst 1, 1, 0, 0, 0, 0), some (.iadd, 1, 0, 0, 0, 0), some (.iastore, 1, 0, 0, 0, 0), some (.aload_n 0, 1, 0, 0, 0, 0), some (.aload_n 0, 1, 0, 0, 0, 0), some (.getfield 90, 3, 10, 46, 1012, 0), none, none, some (.iload_n 3, 1, 0, 0, 0, 0), some (.iaload, 1, 0, 0, 0, 0), some (.iload_n 2, 1, 0, 0, 0, 0), some (.invokevirtual 358, 3, 150, 3, 1386, 0), none, none, some (.ifCond .eq 13, 3, 79, 0, 0, 0), none, none, some (.aload_n 0, 1, 0, 0, 0, 0), some (.iload 4, 2, 0, 0, 0, 0), none, some (.aload_n 0, 1, 0, 0, 0, 0), some (.invokevirtual 329, 3, 139, 1, 1339, 0), none, none, some (.invokevirtual 381, 3, 160, 3, 1418, 0), none, none, some (.iinc 3 1, 3, 0, 0, 0, 0), none, none, some (.goto (-70), 3, 12, 0, 0, 0), none, none, some (.aload_n 0, 1, 0, 0, 0, 0), some (.getfield 216, 3, 10, 49, 1015, 0), none, none, some (.ireturn, 1, 0, 0, 0, 0)]
def am_q160 : List (Option am_I) := [some (.aload_n 0, 1, 0, 0, 0, 0), some (.getfield 102, 3, 10, 52, 1018, 0), none, none, some (.iload_n 1, 1, 0, 0, 0, 0), some (.iaload, 1, 0, 0, 0, 0), some (.ifCond .ne 7, 3, 13, 0, 0, 0), none, none, some (.iconst 1, 1, 0, 0, 0, 0), some (.goto 4, 3, 14, 0, 0, 0), none, none, some (.iconst 0, 1, 0, 0, 0, 0), some (.istore 4, 2, 0, 0, 0, 0), none, some (.aload_n 0, 1, 0, 0, 0, 0), some (.getfield 102, 3, 10, 52, 1018, 0), none, none, some (.iload_n 1, 1, 0, 0, 0, 0), some (.dup2, 1, 0, 0, 0, 0), some (.iaload, 1, 0, 0, 0, 0), some (.iconst 1, 1, 0, 0, 0, 0), some (.iadd, 1, 0, 0, 0, 0), some (.iastore, 1, 0, 0, 0, 0), some (.aload_n 0, 1, 0, 0, 0, 0), some (.getfield 105, 3, 10, 53, 1019, 0), none, none, some (.iload_n 1, 1, 0, 0, 0, 0), some (.dup2, 1, 0, 0, 0, 0), some (.laload, 1, 0, 0, 0, 0), some (.lload_n 2, 1, 0, 0, 0, 0), some (.ladd, 1, 0, 0, 0, 0), some (.lastore, 1, 0, 0, 0, 0), some (.aload_n 0, 1, 0, 0, 0, 0), some (.getfield 108, 3, 10, 54, 1020, 0), none, none, some (.iload_n 1, 1, 0, 0, 0, 0), some (.iload 4, 2, 0, 0, 0, 0), none, some (.ifCond .ne 14, 3, 57, 0, 0, 0), none, none, some (.lload_n 2, 1, 0, 0, 0, 0), some (.aload_n 0, 1, 0, 0, 0, 0), some (.getfield 108, 3, 10, 54, 1020, 0), none, none, some (.iload_n 1, 1, 0, 0, 0, 0), some (.laload, 1, 0, 0, 0, 0), some (.lcmp, 1, 0, 0, 0, 0), some (.ifCond .ge 7, 3, 61, 0, 0, 0), none, none, some (.lload_n 2, 1, 0, 0, 0, 0), some (.goto 9, 3, 67, 0, 0, 0), none, none, some (.aload_n 0, 1, 0, 0, 0, 0), some (.getfield 108, 3, 10, 54, 1020, 0), none, none, some (.iload_n 1, 1, 0, 0, 0, 0), some (.laload, 1, 0, 0, 0, 0), some (.lastore, 1, 0, 0, 0, 0), some (.aload_n 0, 1, 0, 0, 0, 0), some (.getfield 111, 3, 10, 55, 1021, 0), none, none, some (.iload_n 1, 1, 0, 0, 0, 0), some (.iload 4, 2, 0, 0, 0, 0), none, some (.ifCond .ne 14, 3, 89, 0, 0, 0), none, none, some (.lload_n 2, 1, 0, 0, 0, 0), some (.aload_n 0, 1, 0, 0, 0, 0), some (.getfield 111, 3, 10, 55, 1021, 0), none, none, some (.iload_n 1, 1, 0, 0, 0, 0), some (.laload, 1, 0, 0, 0, 0), some (.lcmp, 1, 0, 0, 0, 0), some (.ifCond .le 7, 3, 93, 0, 0, 0), none, none, some (.lload_n 2, 1, 0, 0, 0, 0), some (.goto 9, 3, 99, 0, 0, 0), none, none, some (.aload_n 0, 1, 0, 0, 0, 0), some (.getfield 111, 3, 10, 55, 1021, 0), none, none, some (.iload_n 1, 1, 0, 0, 0, 0), some (.laload, 1, 0, 0, 0, 0), some (.lastore, 1, 0, 0, 0, 0), some (.return_, 1, 0, 0, 0, 0)]
def am_q161 : List (Option am_I) := [some (.aload_n 0, 1, 0, 0, 0, 0), some (.iload_n 1, 1, 0, 0, 0, 0), some (.ifCond .lt 11, 3, 13, 0, 0, 0), none, none, some (.iload_n 1, 1, 0, 0, 0, 0), some (.aload_n 0, 1, 0, 0, 0, 0), some (.getfield 216, 3, 10, 49, 1015, 0), none, none, some (.if_icmp .lt 7, 3, 17, 0, 0, 0), none, none, some (.iconst 1, 1, 0, 0, 0, 0), some (.goto 17, 3, 31, 0, 0, 0), none, none, some (.iload_n 2, 1, 0, 0, 0, 0), some (.ifCond .lt 8, 3, 26, 0, 0, 0), none, none, some (.iload_n 2, 1, 0, 0, 0, 0), some (.iconst 5, 1, 0, 0, 0, 0), some (.if_icmp .le 7, 3, 30, 0, 0, 0), none, none, some (.iconst 2, 1, 0, 0, 0, 0), some (.goto 4, 3, 31, 0, 0, 0), none, none, some (.iconst 0, 1, 0, 0, 0, 0), some (.putfield 114, 3, 10, 0, 966, 0), none, none, some (.aload_n 0, 1, 0, 0, 0, 0), some (.getfield 114, 3, 10, 0, 966, 0), none, none, some (.ifCond .le 5, 3, 43, 0, 0, 0), none, none, some (.lconst 0, 1, 0, 0, 0, 0), some (.lreturn, 1, 0, 0, 0, 0), some (.iload_n 2, 1, 0, 0, 0, 0), some (.iconst 3, 1, 0, 0, 0, 0), some (.if_icmp .ge 39, 3, 84, 0, 0, 0), none, none, some (.iload_n 2, 1, 0, 0, 0, 0), some (.ifCond .ne 12, 3, 61, 0, 0, 0), none, none, some (.aload_n 0, 1, 0, 0, 0, 0), some (.getfield 96, 3, 10, 50, 1016, 0), none, none, some (.iload_n 1, 1, 0, 0, 0, 0), some (.laload, 1, 0, 0, 0, 0), some (.goto 25, 3, 83, 0, 0, 0), none, none, some (.iload_n 2, 1, 0, 0, 0, 0), some (.iconst 1, 1, 0, 0, 0, 0), some (.if_icmp .ne 13, 3, 76, 0, 0, 0), none, none, some (.aload_n 0, 1, 0, 0, 0, 0), some (.getfield 99, 3, 10, 51, 1017, 0), none, none, some (.iload_n 1, 1, 0, 0, 0, 0), some (.iaload, 1, 0, 0, 0, 0), some (.i2l, 1, 0, 0, 0, 0), some (.goto 10, 3, 83, 0, 0, 0), none, none, some (.aload_n 0, 1, 0, 0, 0, 0), some (.getfield 102, 3, 10, 52, 1018, 0), none, none, some (.iload_n 1, 1, 0, 0, 0, 0), some (.iaload, 1, 0, 0, 0, 0), some (.i2l, 1, 0, 0, 0, 0), some (.lreturn, 1, 0, 0, 0, 0), some (.iload_n 2, 1, 0, 0, 0, 0), some (.iconst 3, 1, 0, 0, 0, 0), some (.if_icmp .ne 12, 3, 98, 0, 0, 0), none, none, some (.aload_n 0, 1, 0, 0, 0, 0), some (.getfield 105, 3, 10, 53, 1019, 0), none, none, some (.iload_n 1, 1, 0, 0, 0, 0), some (.laload, 1, 0, 0, 0, 0), some (.goto 23, 3, 118, 0, 0, 0), none, none, some (.iload_n 2, 1, 0, 0, 0, 0), some (.iconst 4, 1, 0, 0, 0, 0), some (.if_icmp .ne 12, 3, 112, 0, 0, 0), none, none, some (.aload_n 0, 1, 0, 0, 0, 0), some (.getfield 108, 3, 10, 54, 1020, 0), none, none, some (.iload_n 1, 1, 0, 0, 0, 0), some (.laload, 1, 0, 0, 0, 0), some (.goto 9, 3, 118, 0, 0, 0), none, none, some (.aload_n 0, 1, 0, 0, 0, 0), some (.getfield 111, 3, 10, 55, 1021, 0), none, none, some (.iload_n 1, 1, 0, 0, 0, 0), some (.laload, 1, 0, 0, 0, 0), some (.lreturn, 1, 0, 0, 0, 0)]
def am_q162 : List (Option am_I) := [some (.lload_n 0, 1, 0, 0, 0, 0), some (.lload_n 2, 1, 0, 0, 0, 0), some (.ldiv, 1, 0, 0, 0, 0), some (.lstore 4, 2, 0, 0, 0, 0), none, some (.lload_n 0, 1, 0, 0, 0, 0), some (.lload_n 2, 1, 0, 0, 0, 0), some (.lxor, 1, 0, 0, 0, 0), some (.lconst 0, 1, 0, 0, 0, 0), some (.lcmp, 1, 0, 0, 0, 0), some (.ifCond .ge 17, 3, 27, 0, 0, 0), none, none, some (.lload 4, 2, 0, 0, 0, 0), none, some (.lload_n 2, 1, 0, 0, 0, 0), some (.lmul, 1, 0, 0, 0, 0), some (.lload_n 0, 1, 0, 0, 0, 0), some (.lcmp, 1, 0, 0, 0, 0), some (.ifCond .eq 8, 3, 27, 0, 0, 0), none, none, some (.lload 4, 2, 0, 0, 0, 0), none, some (.lconst 1, 1, 0, 0, 0, 0), some (.lsub, 1, 0, 0, 0, 0), some (.lreturn, 1, 0, 0, 0, 0), some (.lload 4, 2, 0, 0, 0, 0), none, some (.lreturn, 1, 0, 0, 0, 0)]
def am_q163 : List (Option am_I) := [some (.lload_n 0, 1, 0, 0, 0, 0), some (.lload_n 2, 1, 0, 0, 0, 0), some (.lrem, 1, 0, 0, 0, 0), some (.lstore 4, 2, 0, 0, 0, 0), none, some (.lload_n 0, 1, 0, 0, 0, 0), some (.lload_n 2, 1, 0, 0, 0, 0), some (.lxor, 1, 0, 0, 0, 0), some (.lconst 0, 1, 0, 0, 0, 0), some (.lcmp, 1, 0, 0, 0, 0), some (.ifCond .ge 15, 3, 25, 0, 0, 0), none, none, some (.lload 4, 2, 0, 0, 0, 0), none, some (.lconst 0, 1, 0, 0, 0, 0), some (.lcmp, 1, 0, 0, 0, 0), some (.ifCond .eq 8, 3, 25, 0, 0, 0), none, none, some (.lload 4, 2, 0, 0, 0, 0), none, some (.lload_n 2, 1, 0, 0, 0, 0), some (.ladd, 1, 0, 0, 0, 0), some (.lreturn, 1, 0, 0, 0, 0), some (.lload 4, 2, 0, 0, 0, 0), none, some (.lreturn, 1, 0, 0, 0, 0)]
def am_q164 : List (Option am_I) := [some (.iload_n 0, 1, 0, 0, 0, 0), some (.iload_n 1, 1, 0, 0, 0, 0), some (.if_icmp .lt 7, 3, 9, 0, 0, 0), none, none, some (.iload_n 0, 1, 0, 0, 0, 0), some (.goto 4, 3, 10, 0, 0, 0), none, none, some (.iload_n 1, 1, 0, 0, 0, 0), some (.ireturn, 1, 0, 0, 0, 0)]
def am_q165 : List (Option am_I) := [some (.lload_n 0, 1, 0, 0, 0, 0), some (.lload_n 2, 1, 0, 0, 0, 0), some (.lcmp, 1, 0, 0, 0, 0), some (.ifCond .lt 7, 3, 10, 0, 0, 0), none, none, some (.lload_n 0, 1, 0, 0, 0, 0), some (.goto 4, 3, 11, 0, 0, 0), none, none, some (.lload_n 2, 1, 0, 0, 0, 0), some (.lreturn, 1, 0, 0, 0, 0)]
def am_q166 : List (Option am_I) := [some (.lload_n 0, 1, 0, 0, 0, 0), some (.lload_n 2, 1, 0, 0, 0, 0), some (.lcmp, 1, 0, 0, 0, 0), some (.ifCond .gt 7, 3, 10, 0, 0, 0), none, none, some (.lload_n 0, 1, 0, 0, 0, 0), some (.goto 4, 3, 11, 0, 0, 0), none, none, some (.lload_n 2, 1, 0, 0, 0, 0), some (.lreturn, 1, 0, 0, 0, 0)]
def am_q167 : List (Option am_I) := [some (.aload_n 1, 1, 0, 0, 0, 0), some (.iconst 0, 1, 0, 0, 0, 0), some (.aload_n 0, 1, 0, 0, 0, 0), some (.invokevirtual 7, 3, 74, 1, 541, 0), none, none, some (.i2l, 1, 0, 0, 0, 0), some (.lastore, 1, 0, 0, 0, 0), some (.goto 6, 3, 14, 0, 0, 0), none, none, some (.astore_n 2, 1, 0, 0, 0, 0), some (.iconst 1, 1, 0, 0, 0, 0), some (.ireturn, 1, 0, 0, 0, 0), some (.iconst 0, 1, 0, 0, 0, 0), some (.ireturn, 1, 0, 0, 0, 0)]
def am_q168 : List (Option am_I) := [some (.aload_n 3, 1, 0, 0, 0, 0), some (.iconst 0, 1, 0, 0, 0, 0), some (.aload_n 0, 1, 0, 0, 0, 0), some (.iload_n 1, 1, 0, 0, 0, 0), some (.iload_n 2, 1, 0, 0, 0, 0), some (.invokevirtual 15, 3, 77, 3, 790, 0), none, none, some (.lastore, 1, 0, 0, 0, 0), some (.goto 11, 3, 20, 0, 0, 0), none, none, some (.astore 4, 2, 0, 0, 0, 0), none, some (.iconst 1, 1, 0, 0, 0, 0), some (.ireturn, 1, 0, 0, 0, 0), some (.astore 4, 2, 0, 0, 0, 0), none, some (.iconst 2, 1, 0, 0, 0, 0), some (.ireturn, 1, 0, 0, 0, 0), some (.iconst 0, 1, 0, 0, 0, 0), some (.ireturn, 1, 0, 0, 0, 0)]
def am_q169 : List (Option am_I) := [some (.aload_n 3, 1, 0, 0, 0, 0), some (.iconst 0, 1, 0, 0, 0, 0), some (.aload_n 0, 1, 0, 0, 0, 0), some (.iload_n 1, 1, 0, 0, 0, 0), some (.iload_n 2, 1, 0, 0, 0, 0), some (.invokevirtual 21, 3, 78, 3, 829, 0), none, none, some (.i2l, 1, 0, 0, 0, 0), some (.lastore, 1, 0, 0, 0, 0), some (.goto 7, 3, 17, 0, 0, 0), none, none, some (.astore 4, 2, 0, 0, 0, 0), none, some (.iconst 1, 1, 0, 0, 0, 0), some (.ireturn, 1, 0, 0, 0, 0), some (.iconst 0, 1, 0, 0, 0, 0), some (.ireturn, 1, 0, 0, 0, 0)]
def am_q170 : List (Option am_I) := [some (.aload_n 3, 1, 0, 0, 0, 0), some (.iconst 0, 1, 0, 0, 0, 0), some (.aload_n 0, 1, 0, 0, 0, 0), some (.iload_n 1, 1, 0, 0, 0, 0), some (.iload_n 2, 1, 0, 0, 0, 0), some (.invokevirtual 25, 3, 79, 3, 837, 0), none, none, some (.lastore, 1, 0, 0, 0, 0), some (.goto 11, 3, 20, 0, 0, 0), none, none, some (.astore 4, 2, 0, 0, 0, 0), none, some (.iconst 1, 1, 0, 0, 0, 0), some (.ireturn, 1, 0, 0, 0, 0), some (.astore 4, 2, 0, 0, 0, 0), none, some (.iconst 2, 1, 0, 0, 0, 0), some (.ireturn, 1, 0, 0, 0, 0), some (.iconst 0, 1, 0, 0, 0, 0), some (.ireturn, 1, 0, 0, 0, 0)]
def am_q171 : List (Option am_I) := [some (.aload 4, 2, 0, 0, 0, 0), none, some (.iconst 0, 1, 0, 0, 0, 0), some (.aload_n 0, 1, 0, 0, 0, 0), some (.iload_n 1, 1, 0, 0, 0, 0), some (.iload_n 2, 1, 0, 0, 0, 0), some (.iload_n 3, 1, 0, 0, 0, 0), some (.invokevirtual 30, 3, 80, 4, 859, 0), none, none, some (.i2l, 1, 0, 0, 0, 0), some (.lastore, 1, 0, 0, 0, 0), some (.goto 15, 3, 27, 0, 0, 0), none, none, some (.astore 5, 2, 0, 0, 0, 0), none, some (.iconst 1, 1, 0, 0, 0, 0), some (.ireturn, 1, 0, 0, 0, 0), some (.astore 5, 2, 0, 0, 0, 0), none, some (.iconst 2, 1, 0, 0, 0, 0), some (.ireturn, 1, 0, 0, 0, 0), some (.astore 5, 2, 0, 0, 0, 0), none, some (.iconst 3, 1, 0, 0, 0, 0), some (.ireturn, 1, 0, 0, 0, 0), some (.iconst 0, 1, 0, 0, 0, 0), some (.ireturn, 1, 0, 0, 0, 0)]
def am_q172 : List (Option am_I) := [some (.aload_n 2, 1, 0, 0, 0, 0), some (.iconst 0, 1, 0, 0, 0, 0), some (.aload_n 0, 1, 0, 0, 0, 0), some (.iload_n 1, 1, 0, 0, 0, 0), some (.invokevirtual 34, 3, 82, 2, 866, 0), none, none, some (.i2l, 1, 0, 0, 0, 0), some (.lastore, 1, 0, 0, 0, 0), some (.goto 6, 3, 15, 0, 0, 0), none, none, some (.astore_n 3, 1, 0, 0, 0, 0), some (.iconst 1, 1, 0, 0, 0, 0), some (.ireturn, 1, 0, 0, 0, 0), some (.iconst 0, 1, 0, 0, 0, 0), some (.ireturn, 1, 0, 0, 0, 0)]
def am_q173 : List (Option am_I) := [some (.aload_n 2, 1, 0, 0, 0, 0), some (.iconst 0, 1, 0, 0, 0, 0), some (.aload_n 0, 1, 0, 0, 0, 0), some (.iload_n 1, 1, 0, 0, 0, 0), some (.invokevirtual 38, 3, 84, 2, 916, 0), none, none, some (.i2l, 1, 0, 0, 0, 0), some (.lastore, 1, 0, 0, 0, 0), some (.goto 6, 3, 15, 0, 0, 0), none, none, some (.astore_n 3, 1, 0, 0, 0, 0), some (.iconst 1, 1, 0, 0, 0, 0), some (.ireturn, 1, 0, 0, 0, 0), some (.iconst 0, 1, 0, 0, 0, 0), some (.ireturn, 1, 0, 0, 0, 0)]
def am_q174 : List (Option am_I) := [some (.aload_n 3, 1, 0, 0, 0, 0), some (.iconst 0, 1, 0, 0, 0, 0), some (.aload_n 0, 1, 0, 0, 0, 0), some (.iload_n 1, 1, 0, 0, 0, 0), some (.iload_n 2, 1, 0, 0, 0, 0), some (.invokevirtual 42, 3, 85, 3, 923, 0), none, none, some (.lastore, 1, 0, 0, 0, 0), some (.goto 11, 3, 20, 0, 0, 0), none, none, some (.astore 4, 2, 0, 0, 0, 0), none, some (.iconst 1, 1, 0, 0, 0, 0), some (.ireturn, 1, 0, 0, 0, 0), some (.astore 4, 2, 0, 0, 0, 0), none, some (.iconst 2, 1, 0, 0, 0, 0), some (.ireturn, 1, 0, 0, 0, 0), some (.iconst 0, 1, 0, 0, 0, 0), some (.ireturn, 1, 0, 0, 0, 0)]
def am_q175 : List (Option am_I) := [some (.aload_n 3, 1, 0, 0, 0, 0), some (.iconst 0, 1, 0, 0, 0, 0), some (.aload_n 0, 1, 0, 0, 0, 0), some (.iload_n 1, 1, 0, 0, 0, 0), some (.iload_n 2, 1, 0, 0, 0, 0), some (.invokevirtual 45, 3, 87, 3, 956, 0), none, none, some (.lastore, 1, 0, 0, 0, 0), some (.goto 11, 3, 20, 0, 0, 0), none, none, some (.astore 4, 2, 0, 0, 0, 0), none, some (.iconst 1, 1, 0, 0, 0, 0), some (.ireturn, 1, 0, 0, 0, 0), some (.astore 4, 2, 0, 0, 0, 0), none, some (.iconst 2, 1, 0, 0, 0, 0), some (.ireturn, 1, 0, 0, 0, 0), some (.iconst 0, 1, 0, 0, 0, 0), some (.ireturn, 1, 0, 0, 0, 0)]
def am_q176 : List (Option am_I) := [some (.new 8, 3, 9, 0, 94, 0), none, none, some (.dup, 1, 0, 0, 0, 0), some (.invokespecial 48, 3, 72, 1, 96, 0), none, none, some (.astore_n 1, 1, 0, 0, 0, 0), some (.new 49, 3, 10, 0, 960, 0), none, none, some (.dup, 1, 0, 0, 0, 0), some (.invokespecial 51, 3, 91, 1, 962, 0), none, none, some (.astore_n 2, 1, 0, 0, 0, 0), some (.iconst 1, 1, 0, 0, 0, 0), some (.newarray .long, 2, 1, 0, 0, 0), none, some (.astore_n 3, 1, 0, 0, 0, 0), some (.iconst 0, 1, 0, 0, 0, 0), some (.istore 4, 2, 0, 0, 0, 0), none, some (.iload 4, 2, 0, 0, 0, 0), none, some (.aload_n 0, 1, 0, 0, 0, 0), some (.arraylength, 1, 0, 0, 0, 0), some (.iconst 4, 1, 0, 0, 0, 0), some (.isub, 1, 0, 0, 0, 0), some (.if_icmp .gt 829, 3, 858, 0, 0, 0), none, none, some (.aload_n 0, 1, 0, 0, 0, 0), some (.iload 4, 2, 0, 0, 0, 0), none, some (.iaload, 1, 0, 0, 0, 0), some (.bipush 15, 2, 0, 0, 0, 0), none, some (.iand, 1, 0, 0, 0, 0), some (.tableswitch 813 0 14 #[73, 110, 154, 179, 192, 259, 327, 394, 474, 501, 573, 586, 642, 709, 746], 73, 0, 0, 0, 0), none, none, none, none, none, none, none, none, none, none, none, none, none, none, none, none, none, none, none, none, none, none, none, none, none, none, none, none, none, none, none, none, none, none, none, none, none, none, none, none, none, none, none, none, none, none, none, none, none, none, none, none, none, none, none, none, none, none, none, none, none, none, none, none, none, none, none, none, none, none, none, none, some (.aload_n 1, 1, 0, 0, 0, 0), some (.aload_n 0, 1, 0, 0, 0, 0), some (.iload 4, 2, 0, 0, 0, 0), none, some (.iconst 1, 1, 0, 0, 0, 0), some (.iadd, 1, 0, 0, 0, 0), some (.iaload, 1, 0, 0, 0, 0), some (.aload_n 0, 1, 0, 0, 0, 0), some (.iload 4, 2, 0, 0, 0, 0), none, some (.iconst 2, 1, 0, 0, 0, 0), some (.iadd, 1, 0, 0, 0, 0), some (.iaload, 1, 0, 0, 0, 0), some (.invokevirtual 52, 3, 73, 3, 459, 0), none, none, some (.aload_n 2, 1, 0, 0, 0, 0), some (.aload_n 0, 1, 0, 0, 0, 0), some (.iload 4, 2, 0, 0, 0, 0), none, some (.iconst 1, 1, 0, 0, 0, 0), some (.iadd, 1, 0, 0, 0, 0), some (.iaload, 1, 0, 0, 0, 0), some (.aload_n 0, 1, 0, 0, 0, 0), some (.iload 4, 2, 0, 0, 0, 0), none, some (.iconst 2, 1, 0, 0, 0, 0), some (.iadd, 1, 0, 0, 0, 0), some (.iaload, 1, 0, 0, 0, 0), some (.invokevirtual 56, 3, 94, 3, 1145, 0), none, none, some (.if_icmp .eq 708, 3, 852, 0, 0, 0), none, none, some (.iconst 0, 1, 0, 0, 0, 0), some (.ireturn, 1, 0, 0, 0, 0), some (.aload_n 1, 1, 0, 0, 0, 0), some (.aload_n 3, 1, 0, 0, 0, 0), some (.invokestatic 57, 3, 167, 2, 537, 0), none, none, some (.istore 5, 2, 0, 0, 0, 0), none, some (.aload_n 2, 1, 0, 0, 0, 0), some (.invokevirtual 62, 3, 112, 1, 1149, 0), none, none, some (.istore 6, 2, 0, 0, 0, 0), none, some (.aload_n 2, 1, 0, 0, 0, 0), some (.invokevirtual 63, 3, 92, 1, 1141, 0), none, none, some (.iload 5, 2, 0, 0, 0, 0), none, some (.if_icmp .eq 5, 3, 173, 0, 0, 0), none, none, some (.iconst 0, 1, 0, 0, 0, 0), some (.ireturn, 1, 0, 0, 0, 0), some (.iload 5, 2, 0, 0, 0, 0), none, some (.ifCond .ne 15, 3, 190, 0, 0, 0), none, none, some (.aload_n 3, 1, 0, 0, 0, 0), some (.iconst 0, 1, 0, 0, 0, 0), some (.laload, 1, 0, 0, 0, 0), some (.iload 6, 2, 0, 0, 0, 0), none, some (.i2l, 1, 0, 0, 0, 0), some (.lcmp, 1, 0, 0, 0, 0), some (.ifCond .eq 5, 3, 190, 0, 0, 0), none, none, some (.iconst 0, 1, 0, 0, 0, 0), some (.ireturn, 1, 0, 0, 0, 0), some (.goto 662, 3, 852, 0, 0, 0), none, none, some (.aload_n 1, 1, 0, 0, 0, 0), some (.aload_n 0, 1, 0, 0, 0, 0), some (.iload 4, 2, 0, 0, 0, 0), none, some (.iconst 1, 1, 0, 0, 0, 0), some (.iadd, 1, 0, 0, 0, 0), some (.iaload, 1, 0, 0, 0, 0), some (.invokevirtual 66, 3, 75, 2, 467, 0), none, none, some (.aload_n 2, 1, 0, 0, 0, 0), some (.aload_n 0, 1, 0, 0, 0, 0), some (.iload 4, 2, 0, 0, 0, 0), none, some (.iconst 1, 1, 0, 0, 0, 0), some (.iadd, 1, 0, 0, 0, 0), some (.iaload, 1, 0, 0, 0, 0), some (.invokevirtual 69, 3, 125, 2, 1279, 0), none, none, some (.if_icmp .eq 639, 3, 852, 0, 0, 0), none, none, some (.iconst 0, 1, 0, 0, 0, 0), some (.ireturn, 1, 0, 0, 0, 0), some (.aload_n 1, 1, 0, 0, 0, 0), some (.invokevirtual 70, 3, 76, 1, 471, 0), none, none, some (.aload_n 2, 1, 0, 0, 0, 0), some (.invokevirtual 73, 3, 126, 1, 1283, 0), none, none, some (.if_icmp .eq 626, 3, 852, 0, 0, 0), none, none, some (.iconst 0, 1, 0, 0, 0, 0), some (.ireturn, 1, 0, 0, 0, 0), some (.aload_n 1, 1, 0, 0, 0, 0), some (.aload_n 0, 1, 0, 0, 0, 0), some (.iload 4, 2, 0, 0, 0, 0), none, some (.iconst 1, 1, 0, 0, 0, 0), some (.iadd, 1, 0, 0, 0, 0), some (.iaload, 1, 0, 0, 0, 0), some (.aload_n 0, 1, 0, 0, 0, 0), some (.iload 4, 2, 0, 0, 0, 0), none, some (.iconst 2, 1, 0, 0, 0, 0), some (.iadd, 1, 0, 0, 0, 0), some (.iaload, 1, 0, 0, 0, 0), some (.aload_n 3, 1, 0, 0, 0, 0), some (.invokestatic 74, 3, 168, 4, 786, 0), none, none, some (.istore 5, 2, 0, 0, 0, 0), none, some (.aload_n 2, 1, 0, 0, 0, 0), some (.aload_n 0, 1, 0, 0, 0, 0), some (.iload 4, 2, 0, 0, 0, 0), none, some (.iconst 1, 1, 0, 0, 0, 0), some (.iadd, 1, 0, 0, 0, 0), some (.iaload, 1, 0, 0, 0, 0), some (.aload_n 0, 1, 0, 0, 0, 0), some (.iload 4, 2, 0, 0, 0, 0), none, some (.iconst 2, 1, 0, 0, 0, 0), some (.iadd, 1, 0, 0, 0, 0), some (.iaload, 1, 0, 0, 0, 0), some (.invokevirtual 77, 3, 131, 3, 1287, 0), none, none, some (.lstore 6, 2, 0, 0, 0, 0), none, some (.aload_n 2, 1, 0, 0, 0, 0), some (.invokevirtual 63, 3, 92, 1, 1141, 0), none, none, some (.iload 5, 2, 0, 0, 0, 0), none, some (.if_icmp .eq 5, 3, 279, 0, 0, 0), none, none, some (.iconst 0, 1, 0, 0, 0, 0), some (.ireturn, 1, 0, 0, 0, 0), some (.iload 5, 2, 0, 0, 0, 0), none, some (.ifCond .ne 14, 3, 295, 0, 0, 0), none, none, some (.aload_n 3, 1, 0, 0, 0, 0), some (.iconst 0, 1, 0, 0, 0, 0), some (.laload, 1, 0, 0, 0, 0), some (.lload 6, 2, 0, 0, 0, 0), none, some (.lcmp, 1, 0, 0, 0, 0), some (.ifCond .eq 5, 3, 295, 0, 0, 0), none, none, some (.iconst 0, 1, 0, 0, 0, 0), some (.ireturn, 1, 0, 0, 0, 0), some (.goto 557, 3, 852, 0, 0, 0), none, none, some (.aload_n 1, 1, 0, 0, 0, 0), some (.aload_n 0, 1, 0, 0, 0, 0), some (.iload 4, 2, 0, 0, 0, 0), none, some (.iconst 1, 1, 0, 0, 0, 0), some (.iadd, 1, 0, 0, 0, 0), some (.iaload, 1, 0, 0, 0, 0), some (.aload_n 0, 1, 0, 0, 0, 0), some (.iload 4, 2, 0, 0, 0, 0), none, some (.iconst 2, 1, 0, 0, 0, 0), some (.iadd, 1, 0, 0, 0, 0), some (.iaload, 1, 0, 0, 0, 0), some (.aload_n 3, 1, 0, 0, 0, 0), some (.invokestatic 78, 3, 169, 4, 826, 0), none, none, some (.istore 5, 2, 0, 0, 0, 0), none, some (.aload_n 2, 1, 0, 0, 0, 0), some (.aload_n 0, 1, 0, 0, 0, 0), some (.iload 4, 2, 0, 0, 0, 0), none, some (.iconst 1, 1, 0, 0, 0, 0), some (.iadd, 1, 0, 0, 0, 0), some (.iaload, 1, 0, 0, 0, 0), some (.aload_n 0, 1, 0, 0, 0, 0), some (.iload 4, 2, 0, 0, 0, 0), none, some (.iconst 2, 1, 0, 0, 0, 0), some (.iadd, 1, 0, 0, 0, 0), some (.iaload, 1, 0, 0, 0, 0), some (.invokevirtual 80, 3, 138, 3, 1307, 0), none, none, some (.istore 6, 2, 0, 0, 0, 0), none, some (.aload_n 2, 1, 0, 0, 0, 0), some (.invokevirtual 63, 3, 92, 1, 1141, 0), none, none, some (.iload 5, 2, 0, 0, 0, 0), none, some (.if_icmp .eq 5, 3, 346, 0, 0, 0), none, none, some (.iconst 0, 1, 0, 0, 0, 0), some (.ireturn, 1, 0, 0, 0, 0), some (.iload 5, 2, 0, 0, 0, 0), none, some (.ifCond .ne 15, 3, 363, 0, 0, 0), none, none, some (.aload_n 3, 1, 0, 0, 0, 0), some (.iconst 0, 1, 0, 0, 0, 0), some (.laload, 1, 0, 0, 0, 0), some (.iload 6, 2, 0, 0, 0, 0), none, some (.i2l, 1, 0, 0, 0, 0), some (.lcmp, 1, 0, 0, 0, 0), some (.ifCond .eq 5, 3, 363, 0, 0, 0), none, none, some (.iconst 0, 1, 0, 0, 0, 0), some (.ireturn, 1, 0, 0, 0, 0), some (.goto 489, 3, 852, 0, 0, 0), none, none, some (.aload_n 1, 1, 0, 0, 0, 0), some (.aload_n 0, 1, 0, 0, 0, 0), some (.iload 4, 2, 0, 0, 0, 0), none, some (.iconst 1, 1, 0, 0, 0, 0), some (.iadd, 1, 0, 0, 0, 0), some (.iaload, 1, 0, 0, 0, 0), some (.aload_n 0, 1, 0, 0, 0, 0), some (.iload 4, 2, 0, 0, 0, 0), none, some (.iconst 2, 1, 0, 0, 0, 0), some (.iadd, 1, 0, 0, 0, 0), some (.iaload, 1, 0, 0, 0, 0), some (.aload_n 3, 1, 0, 0, 0, 0), some (.invokestatic 81, 3, 170, 4, 833, 0), none, none, some (.istore 5, 2, 0, 0, 0, 0), none, some (.aload_n 2, 1, 0, 0, 0, 0), some (.aload_n 0, 1, 0, 0, 0, 0), some (.iload 4, 2, 0, 0, 0, 0), none, some (.iconst 1, 1, 0, 0, 0, 0), some (.iadd, 1, 0, 0, 0, 0), some (.iaload, 1, 0, 0, 0, 0), some (.aload_n 0, 1, 0, 0, 0, 0), some (.iload 4, 2, 0, 0, 0, 0), none, some (.iconst 2, 1, 0, 0, 0, 0), some (.iadd, 1, 0, 0, 0, 0), some (.iaload, 1, 0, 0, 0, 0), some (.invokevirtual 83, 3, 141, 3, 1335, 0), none, none, some (.lstore 6, 2, 0, 0, 0, 0), none, some (.aload_n 2, 1, 0, 0, 0, 0), some (.invokevirtual 63, 3, 92, 1, 1141, 0), none, none, some (.iload 5, 2, 0, 0, 0, 0), none, some (.if_icmp .eq 5, 3, 414, 0, 0, 0), none, none, some (.iconst 0, 1, 0, 0, 0, 0), some (.ireturn, 1, 0, 0, 0, 0), some (.iload 5, 2, 0, 0, 0, 0), none, some (.ifCond .ne 14, 3, 430, 0, 0, 0), none, none, some (.aload_n 3, 1, 0, 0, 0, 0), some (.iconst 0, 1, 0, 0, 0, 0), some (.laload, 1, 0, 0, 0, 0), some (.lload 6, 2, 0, 0, 0, 0), none, some (.lcmp, 1, 0, 0, 0, 0), some (.ifCond .eq 5, 3, 430, 0, 0, 0), none, none, some (.iconst 0, 1, 0, 0, 0, 0), some (.ireturn, 1, 0, 0, 0, 0), some (.goto 422, 3, 852, 0, 0, 0), none, none, some (.aload_n 1, 1, 0, 0, 0, 0), some (.aload_n 0, 1, 0, 0, 0, 0), some (.iload 4, 2, 0, 0, 0, 0), none, some (.iconst 1, 1, 0, 0, 0, 0), some (.iadd, 1, 0, 0, 0, 0), some (.iaload, 1, 0, 0, 0, 0), some (.aload_n 0, 1, 0, 0, 0, 0), some (.iload 4, 2, 0, 0, 0, 0), none, some (.iconst 2, 1, 0, 0, 0, 0), some (.iadd, 1, 0, 0, 0, 0), some (.iaload, 1, 0, 0, 0, 0), some (.aload_n 0, 1, 0, 0, 0, 0), some (.iload 4, 2, 0, 0, 0, 0), none, some (.iconst 3, 1, 0, 0, 0, 0), some (.iadd, 1, 0, 0, 0, 0), some (.iaload, 1, 0, 0, 0, 0), some (.aload_n 3, 1, 0, 0, 0, 0), some (.invokestatic 84, 3, 171, 5, 856, 0), none, none, some (.istore 5, 2, 0, 0, 0, 0), none, some (.aload_n 2, 1, 0, 0, 0, 0), some (.aload_n 0, 1, 0, 0, 0, 0), some (.iload 4, 2, 0, 0, 0, 0), none, some (.iconst 1, 1, 0, 0, 0, 0), some (.iadd, 1, 0, 0, 0, 0), some (.iaload, 1, 0, 0, 0, 0), some (.aload_n 0, 1, 0, 0, 0, 0), some (.iload 4, 2, 0, 0, 0, 0), none, some (.iconst 2, 1, 0, 0, 0, 0), some (.iadd, 1, 0, 0, 0, 0), some (.iaload, 1, 0, 0, 0, 0), some (.aload_n 0, 1, 0, 0, 0, 0), some (.iload 4, 2, 0, 0, 0, 0), none, some (.iconst 3, 1, 0, 0, 0, 0), some (.iadd, 1, 0, 0, 0, 0), some (.iaload, 1, 0, 0, 0, 0), some (.invokevirtual 87, 3, 142, 4, 1348, 0), none, none, some (.istore 6, 2, 0, 0, 0, 0), none, some (.aload_n 2, 1, 0, 0, 0, 0), some (.invokevirtual 63, 3, 92, 1, 1141, 0), none, none, some (.iload 5, 2, 0, 0, 0, 0), none, some (.if_icmp .eq 5, 3, 493, 0, 0, 0), none, none, some (.iconst 0, 1, 0, 0, 0, 0), some (.ireturn, 1, 0, 0, 0, 0), some (.iload 5, 2, 0, 0, 0, 0), none, some (.ifCond .ne 15, 3, 510, 0, 0, 0), none, none, some (.aload_n 3, 1, 0, 0, 0, 0), some (.iconst 0, 1, 0, 0, 0, 0), some (.laload, 1, 0, 0, 0, 0), some (.iload 6, 2, 0, 0, 0, 0), none, some (.i2l, 1, 0, 0, 0, 0), some (.lcmp, 1, 0, 0, 0, 0), some (.ifCond .eq 5, 3, 510, 0, 0, 0), none, none, some (.iconst 0, 1, 0, 0, 0, 0), some (.ireturn, 1, 0, 0, 0, 0), some (.goto 342, 3, 852, 0, 0, 0), none, none, some (.aload_n 1, 1, 0, 0, 0, 0), some (.aload_n 0, 1, 0, 0, 0, 0), some (.iload 4, 2, 0, 0, 0, 0), none, some (.iconst 1, 1, 0, 0, 0, 0), some (.iadd, 1, 0, 0, 0, 0), some (.iaload, 1, 0, 0, 0, 0), some (.i2c, 1, 0, 0, 0, 0), some (.invokevirtual 88, 3, 81, 2, 475, 0), none, none, some (.aload_n 2, 1, 0, 0, 0, 0), some (.aload_n 0, 1, 0, 0, 0, 0), some (.iload 4, 2, 0, 0, 0, 0), none, some (.iconst 1, 1, 0, 0, 0, 0), some (.iadd, 1, 0, 0, 0, 0), some (.iaload, 1, 0, 0, 0, 0), some (.i2c, 1, 0, 0, 0, 0), some (.invokevirtual 92, 3, 143, 2, 1352, 0), none, none, some (.if_icmp .eq 317, 3, 852, 0, 0, 0), none, none, some (.iconst 0, 1, 0, 0, 0, 0), some (.ireturn, 1, 0, 0, 0, 0), some (.aload_n 1, 1, 0, 0, 0, 0), some (.aload_n 0, 1, 0, 0, 0, 0), some (.iload 4, 2, 0, 0, 0, 0), none, some (.iconst 1, 1, 0, 0, 0, 0), some (.iadd, 1, 0, 0, 0, 0), some (.iaload, 1, 0, 0, 0, 0), some (.ifCond .eq 7, 3, 554, 0, 0, 0), none, none, some (.iconst 1, 1, 0, 0, 0, 0), some (.goto 4, 3, 555, 0, 0, 0), none, none, some (.iconst 0, 1, 0, 0, 0, 0), some (.aload_n 3, 1, 0, 0, 0, 0), some (.invokestatic 93, 3, 172, 3, 863, 0), none, none, some (.istore 5, 2, 0, 0, 0, 0), none, some (.aload_n 2, 1, 0, 0, 0, 0), some (.aload_n 0, 1, 0, 0, 0, 0), some (.iload 4, 2, 0, 0, 0, 0), none, some (.iconst 1, 1, 0, 0, 0, 0), some (.iadd, 1, 0, 0, 0, 0), some (.iaload, 1, 0, 0, 0, 0), some (.ifCond .eq 7, 3, 575, 0, 0, 0), none, none, some (.iconst 1, 1, 0, 0, 0, 0), some (.goto 4, 3, 576, 0, 0, 0), none, none, some (.iconst 0, 1, 0, 0, 0, 0), some (.invokevirtual 96, 3, 152, 2, 1356, 0), none, none, some (.istore 6, 2, 0, 0, 0, 0), none, some (.aload_n 2, 1, 0, 0, 0, 0), some (.invokevirtual 63, 3, 92, 1, 1141, 0), none, none, some (.iload 5, 2, 0, 0, 0, 0), none, some (.if_icmp .eq 5, 3, 592, 0, 0, 0), none, none, some (.iconst 0, 1, 0, 0, 0, 0), some (.ireturn, 1, 0, 0, 0, 0), some (.iload 5, 2, 0, 0, 0, 0), none, some (.ifCond .ne 15, 3, 609, 0, 0, 0), none, none, some (.aload_n 3, 1, 0, 0, 0, 0), some (.iconst 0, 1, 0, 0, 0, 0), some (.laload, 1, 0, 0, 0, 0), some (.iload 6, 2, 0, 0, 0, 0), none, some (.i2l, 1, 0, 0, 0, 0), some (.lcmp, 1, 0, 0, 0, 0), some (.ifCond .eq 5, 3, 609, 0, 0, 0), none, none, some (.iconst 0, 1, 0, 0, 0, 0), some (.ireturn, 1, 0, 0, 0, 0), some (.goto 243, 3, 852, 0, 0, 0), none, none, some (.aload_n 1, 1, 0, 0, 0, 0), some (.invokevirtual 97, 3, 83, 1, 483, 0), none, none, some (.aload_n 2, 1, 0, 0, 0, 0), some (.invokevirtual 100, 3, 153, 1, 1390, 0), none, none, some (.if_icmp .eq 232, 3, 852, 0, 0, 0), none, none, some (.iconst 0, 1, 0, 0, 0, 0), some (.ireturn, 1, 0, 0, 0, 0), some (.aload_n 1, 1, 0, 0, 0, 0), some (.aload_n 0, 1, 0, 0, 0, 0), some (.iload 4, 2, 0, 0, 0, 0), none, some (.iconst 1, 1, 0, 0, 0, 0), some (.iadd, 1, 0, 0, 0, 0), some (.iaload, 1, 0, 0, 0, 0), some (.aload_n 3, 1, 0, 0, 0, 0), some (.invokestatic 101, 3, 173, 3, 913, 0), none, none, some (.istore 5, 2, 0, 0, 0, 0), none, some (.aload_n 2, 1, 0, 0, 0, 0), some (.aload_n 0, 1, 0, 0, 0, 0), some (.iload 4, 2, 0, 0, 0, 0), none, some (.iconst 1, 1, 0, 0, 0, 0), some (.iadd, 1, 0, 0, 0, 0), some (.iaload, 1, 0, 0, 0, 0), some (.invokevirtual 104, 3, 154, 2, 1394, 0), none, none, some (.istore 6, 2, 0, 0, 0, 0), none, some (.aload_n 2, 1, 0, 0, 0, 0), some (.invokevirtual 63, 3, 92, 1, 1141, 0), none, none, some (.iload 5, 2, 0, 0, 0, 0), none, some (.if_icmp .eq 5, 3, 661, 0, 0, 0), none, none, some (.iconst 0, 1, 0, 0, 0, 0), some (.ireturn, 1, 0, 0, 0, 0), some (.iload 5, 2, 0, 0, 0, 0), none, some (.ifCond .ne 15, 3, 678, 0, 0, 0), none, none, some (.aload_n 3, 1, 0, 0, 0, 0), some (.iconst 0, 1, 0, 0, 0, 0), some (.laload, 1, 0, 0, 0, 0), some (.iload 6, 2, 0, 0, 0, 0), none, some (.i2l, 1, 0, 0, 0, 0), some (.lcmp, 1, 0, 0, 0, 0), some (.ifCond .eq 5, 3, 678, 0, 0, 0), none, none, some (.iconst 0, 1, 0, 0, 0, 0), some (.ireturn, 1, 0, 0, 0, 0), some (.goto 174, 3, 852, 0, 0, 0), none, none, some (.aload_n 1, 1, 0, 0, 0, 0), some (.aload_n 0, 1, 0, 0, 0, 0), some (.iload 4, 2, 0, 0, 0, 0), none, some (.iconst 1, 1, 0, 0, 0, 0), some (.iadd, 1, 0, 0, 0, 0), some (.iaload, 1, 0, 0, 0, 0), some (.aload_n 0, 1, 0, 0, 0, 0), some (.iload 4, 2, 0, 0, 0, 0), none, some (.iconst 2, 1, 0, 0, 0, 0), some (.iadd, 1, 0, 0, 0, 0), some (.iaload, 1, 0, 0, 0, 0), some (.aload_n 3, 1, 0, 0, 0, 0), some (.invokestatic 105, 3, 174, 4, 920, 0), none, none, some (.istore 5, 2, 0, 0, 0, 0), none, some (.aload_n 2, 1, 0, 0, 0, 0), some (.aload_n 0, 1, 0, 0, 0, 0), some (.iload 4, 2, 0, 0, 0, 0), none, some (.iconst 1, 1, 0, 0, 0, 0), some (.iadd, 1, 0, 0, 0, 0), some (.iaload, 1, 0, 0, 0, 0), some (.aload_n 0, 1, 0, 0, 0, 0), some (.iload 4, 2, 0, 0, 0, 0), none, some (.iconst 2, 1, 0, 0, 0, 0), some (.iadd, 1, 0, 0, 0, 0), some (.iaload, 1, 0, 0, 0, 0), some (.invokevirtual 107, 3, 157, 3, 1398, 0), none, none, some (.lstore 6, 2, 0, 0, 0, 0), none, some (.aload_n 2, 1, 0, 0, 0, 0), some (.invokevirtual 63, 3, 92, 1, 1141, 0), none, none, some (.iload 5, 2, 0, 0, 0, 0), none, some (.if_icmp .eq 5, 3, 729, 0, 0, 0), none, none, some (.iconst 0, 1, 0, 0, 0, 0), some (.ireturn, 1, 0, 0, 0, 0), some (.iload 5, 2, 0, 0, 0, 0), none, some (.ifCond .ne 14, 3, 745, 0, 0, 0), none, none, some (.aload_n 3, 1, 0, 0, 0, 0), some (.iconst 0, 1, 0, 0, 0, 0), some (.laload, 1, 0, 0, 0, 0), some (.lload 6, 2, 0, 0, 0, 0), none, some (.lcmp, 1, 0, 0, 0, 0), some (.ifCond .eq 5, 3, 745, 0, 0, 0), none, none, some (.iconst 0, 1, 0, 0, 0, 0), some (.ireturn, 1, 0, 0, 0, 0), some (.goto 107, 3, 852, 0, 0, 0), none, none, some (.aload_n 1, 1, 0, 0, 0, 0), some (.aload_n 0, 1, 0, 0, 0, 0), some (.iload 4, 2, 0, 0, 0, 0), none, some (.iconst 1, 1, 0, 0, 0, 0), some (.iadd, 1, 0, 0, 0, 0), some (.iaload, 1, 0, 0, 0, 0), some (.aload_n 0, 1, 0, 0, 0, 0), some (.iload 4, 2, 0, 0, 0, 0), none, some (.iconst 2, 1, 0, 0, 0, 0), some (.iadd, 1, 0, 0, 0, 0), some (.iaload, 1, 0, 0, 0, 0), some (.invokevirtual 108, 3, 86, 3, 487, 0), none, none, some (.aload_n 2, 1, 0, 0, 0, 0), some (.aload_n 0, 1, 0, 0, 0, 0), some (.iload 4, 2, 0, 0, 0, 0), none, some (.iconst 1, 1, 0, 0, 0, 0), some (.iadd, 1, 0, 0, 0, 0), some (.iaload, 1, 0, 0, 0, 0), some (.aload_n 0, 1, 0, 0, 0, 0), some (.iload 4, 2, 0, 0, 0, 0), none, some (.iconst 2, 1, 0, 0, 0, 0), some (.iadd, 1, 0, 0, 0, 0), some (.iaload, 1, 0, 0, 0, 0), some (.invokevirtual 111, 3, 159, 3, 1410, 0), none, none, some (.if_icmp .eq 72, 3, 852, 0, 0, 0), none, none, some (.iconst 0, 1, 0, 0, 0, 0), some (.ireturn, 1, 0, 0, 0, 0), some (.aload_n 1, 1, 0, 0, 0, 0), some (.aload_n 0, 1, 0, 0, 0, 0), some (.iload 4, 2, 0, 0, 0, 0), none, some (.iconst 1, 1, 0, 0, 0, 0), some (.iadd, 1, 0, 0, 0, 0), some (.iaload, 1, 0, 0, 0, 0), some (.aload_n 0, 1, 0, 0, 0, 0), some (.iload 4, 2, 0, 0, 0, 0), none, some (.iconst 2, 1, 0, 0, 0, 0), some (.iadd, 1, 0, 0, 0, 0), some (.iaload, 1, 0, 0, 0, 0), some (.aload_n 3, 1, 0, 0, 0, 0), some (.invokestatic 112, 3, 175, 4, 953, 0), none, none, some (.istore 5, 2, 0, 0, 0, 0), none, some (.aload_n 2, 1, 0, 0, 0, 0), some (.aload_n 0, 1, 0, 0, 0, 0), some (.iload 4, 2, 0, 0, 0, 0), none, some (.iconst 1, 1, 0, 0, 0, 0), some (.iadd, 1, 0, 0, 0, 0), some (.iaload, 1, 0, 0, 0, 0), some (.aload_n 0, 1, 0, 0, 0, 0), some (.iload 4, 2, 0, 0, 0, 0), none, some (.iconst 2, 1, 0, 0, 0, 0), some (.iadd, 1, 0, 0, 0, 0), some (.iaload, 1, 0, 0, 0, 0), some (.invokevirtual 114, 3, 161, 3, 1422, 0), none, none, some (.lstore 6, 2, 0, 0, 0, 0), none, some (.aload_n 2, 1, 0, 0, 0, 0), some (.invokevirtual 63, 3, 92, 1, 1141, 0), none, none, some (.iload 5, 2, 0, 0, 0, 0), none, some (.if_icmp .eq 5, 3, 833, 0, 0, 0), none, none, some (.iconst 0, 1, 0, 0, 0, 0), some (.ireturn, 1, 0, 0, 0, 0), some (.iload 5, 2, 0, 0, 0, 0), none, some (.ifCond .ne 14, 3, 849, 0, 0, 0), none, none, some (.aload_n 3, 1, 0, 0, 0, 0), some (.iconst 0, 1, 0, 0, 0, 0), some (.laload, 1, 0, 0, 0, 0), some (.lload 6, 2, 0, 0, 0, 0), none, some (.lcmp, 1, 0, 0, 0, 0), some (.ifCond .eq 5, 3, 849, 0, 0, 0), none, none, some (.iconst 0, 1, 0, 0, 0, 0), some (.ireturn, 1, 0, 0, 0, 0), some (.goto 3, 3, 852, 0, 0, 0), none, none, some (.iinc 4 4, 3, 0, 0, 0, 0), none, none, some (.goto (-832), 3, 23, 0, 0, 0), none, none, some (.iconst 1, 1, 0, 0, 0, 0), some (.ireturn, 1, 0, 0, 0, 0)]
def am_qs : List (List (Option am_I)) := [am_q0, am_q1, am_q2, am_q3, am_q4, am_q5, am_q6, am_q7, am_q8, am_q9, am_q10, am_q11, am_q12, am_q13, am_q14, am_q15, am_q16, am_q17, am_q18, am_q19, am_q20, am_q21, am_q22, am_q23, am_q24, am_q25, am_q26, am_q27, am_q28, am_q29, am_q30, am_q31, am_q32, am_q33, am_q34, am_q35, am_q36, am_q37, am_q38, am_q39, am_q40, am_q41, am_q42, am_q43, am_q44, am_q45, am_q46, am_q47, am_q48, am_q49, am_q50, am_q51, am_q52, am_q53, am_q54, am_q55, am_q56, am_q57, am_q58, am_q59, am_q60, am_q61, am_q62, am_q63, am_q64, am_q65, am_q66, am_q67, am_q68, am_q69, am_q70, am_q71, am_q72, am_q73, am_q74, am_q75, am_q76, am_q77, am_q78, am_q79, am_q80, am_q81, am_q82, am_q83, am_q84, am_q85, am_q86, am_q87, am_q88, am_q89, am_q90, am_q91, am_q92, am_q93, am_q94, am_q95, am_q96, am_q97, am_q98, am_q99, am_q100, am_q101, am_q102, am_q103, am_q104, am_q105, am_q106, am_q107, am_q108, am_q109, am_q110, am_q111, am_q112, am_q113, am_q114, am_q115, am_q116, am_q117, am_q118, am_q119, am_q120, am_q121, am_q122, am_q123, am_q124, am_q125, am_q126, am_q127, am_q128, am_q129, am_q130, am_q131, am_q132, am_q133, am_q134, am_q135, am_q136, am_q137, am_q138, am_q139, am_q140, am_q141, am_q142, am_q143, am_q144, am_q145, am_q146, am_q147, am_q148, am_q149, am_q150, am_q151, am_q152, am_q153, am_q154, am_q155, am_q156, am_q157, am_q158, am_q159, am_q160, am_q161, am_q162, am_q163, am_q164, am_q165, am_q166, am_q167, am_q168, am_q169, am_q170, am_q171, am_q172, am_q173, am_q174, am_q175, am_q176]
def am_P (k pc : Nat) : Option am_I := match am_qs[k]? with
  | some l => (match l[pc]? with
    | some x => x
    | none => none)
  | none => none
def am_chkF (k : Nat) : Nat → List (Option am_I) → Bool
  | _, [] => true
  | pc, none :: t => am_chkF k (pc + 1) t
  | pc, some i :: t => am_chk am_M1 k pc i && am_chkF k (pc + 1) t
end
section
set_option maxRecDepth 100000 in
theorem am_ck0 : am_chkF 0 0 am_q0 = true := by decide +kernel
set_option maxRecDepth 100000 in
theorem am_ck1 : am_chkF 1 0 am_q1 = true := by decide +kernel
set_option maxRecDepth 100000 in
theorem am_ck2 : am_chkF 2 0 am_q2 = true := by decide +kernel
set_option maxRecDepth 100000 in
theorem am_ck3 : am_chkF 3 0 am_q3 = true := by decide +kernel
set_option maxRecDepth 100000 in
theorem am_ck4 : am_chkF 4 0 am_q4 = true := by decide +kernel
set_option maxRecDepth 100000 in
theorem am_ck5 : am_chkF 5 0 am_q5 = true := by decide +kernel
set_option maxRecDepth 100000 in
theorem am_ck6 : am_chkF 6 0 am_q6 = true := by decide +kernel
set_option maxRecDepth 100000 in
theorem am_ck7 : am_chkF 7 0 am_q7 = true := by decide +kernel
set_option maxRecDepth 100000 in
theorem am_ck8 : am_chkF 8 0 am_q8 = true := by decide +kernel
set_option maxRecDepth 100000 in
theorem am_ck9 : am_chkF 9 0 am_q9 = true := by decide +kernel
set_option maxRecDepth 100000 in
theorem am_ck10 : am_chkF 10 0 am_q10 = true := by decide +kernel
set_option maxRecDepth 100000 in
theorem am_ck11 : am_chkF 11 0 am_q11 = true := by decide +kernel
end
section
set_option maxRecDepth 100000 in
theorem am_ck12 : am_chkF 12 0 am_q12 = true := by decide +kernel
set_option maxRecDepth 100000 in
theorem am_ck13 : am_chkF 13 0 am_q13 = true := by decide +kernel
set_option maxRecDepth 100000 in
theorem am_ck14 : am_chkF 14 0 am_q14 = true := by decide +kernel
set_option maxRecDepth 100000 in
theorem am_ck15 : am_chkF 15 0 am_q15 = true := by decide +kernel
set_option maxRecDepth 100000 in
theorem am_ck16 : am_chkF 16 0 am_q16 = true := by decide +kernel
set_option maxRecDepth 100000 in
theorem am_ck17 : am_chkF 17 0 am_q17 = true := by decide +kernel
set_option maxRecDepth 100000 in
theorem am_ck18 : am_chkF 18 0 am_q18 = true := by decide +kernel
set_option maxRecDepth 100000 in
theorem am_ck19 : am_chkF 19 0 am_q19 = true := by decide +kernel
set_option maxRecDepth 100000 in
theorem am_ck20 : am_chkF 20 0 am_q20 = true := by decide +kernel
set_option maxRecDepth 100000 in
theorem am_ck21 : am_chkF 21 0 am_q21 = true := by decide +kernel
set_option maxRecDepth 100000 in
theorem am_ck22 : am_chkF 22 0 am_q22 = true := by decide +kernel
set_option maxRecDepth 100000 in
theorem am_ck23 : am_chkF 23 0 am_q23 = true := by decide +kernel
end
section
set_option maxRecDepth 100000 in
theorem am_ck24 : am_chkF 24 0 am_q24 = true := by decide +kernel
set_option maxRecDepth 100000 in
theorem am_ck25 : am_chkF 25 0 am_q25 = true := by decide +kernel
set_option maxRecDepth 100000 in
theorem am_ck26 : am_chkF 26 0 am_q26 = true := by decide +kernel
set_option maxRecDepth 100000 in
theorem am_ck27 : am_chkF 27 0 am_q27 = true := by decide +kernel
set_option maxRecDepth 100000 in
theorem am_ck28 : am_chkF 28 0 am_q28 = true := by decide +kernel
set_option maxRecDepth 100000 in
theorem am_ck29 : am_chkF 29 0 am_q29 = true := by decide +kernel
set_option maxRecDepth 100000 in
theorem am_ck30 : am_chkF 30 0 am_q30 = true := by decide +kernel
set_option maxRecDepth 100000 in
theorem am_ck31 : am_chkF 31 0 am_q31 = true := by decide +kernel
set_option maxRecDepth 100000 in
theorem am_ck32 : am_chkF 32 0 am_q32 = true := by decide +kernel
set_option maxRecDepth 100000 in
theorem am_ck33 : am_chkF 33 0 am_q33 = true := by decide +kernel
set_option maxRecDepth 100000 in
theorem am_ck34 : am_chkF 34 0 am_q34 = true := by decide +kernel
set_option maxRecDepth 100000 in
theorem am_ck35 : am_chkF 35 0 am_q35 = true := by decide +kernel
end
section
set_option maxRecDepth 100000 in
theorem am_ck36 : am_chkF 36 0 am_q36 = true := by decide +kernel
set_option maxRecDepth 100000 in
theorem am_ck37 : am_chkF 37 0 am_q37 = true := by decide +kernel
set_option maxRecDepth 100000 in
theorem am_ck38 : am_chkF 38 0 am_q38 = true := by decide +kernel
set_option maxRecDepth 100000 in
theorem am_ck39 : am_chkF 39 0 am_q39 = true := by decide +kernel
set_option maxRecDepth 100000 in
theorem am_ck40 : am_chkF 40 0 am_q40 = true := by decide +kernel
set_option maxRecDepth 100000 in
theorem am_ck41 : am_chkF 41 0 am_q41 = true := by decide +kernel
set_option maxRecDepth 100000 in
theorem am_ck42 : am_chkF 42 0 am_q42 = true := by decide +kernel
set_option maxRecDepth 100000 in
theorem am_ck43 : am_chkF 43 0 am_q43 = true := by decide +kernel
set_option maxRecDepth 100000 in
theorem am_ck44 : am_chkF 44 0 am_q44 = true := by decide +kernel
set_option maxRecDepth 100000 in
theorem am_ck45 : am_chkF 45 0 am_q45 = true := by decide +kernel
set_option maxRecDepth 100000 in
theorem am_ck46 : am_chkF 46 0 am_q46 = true := by decide +kernel
set_option maxRecDepth 100000 in
theorem am_ck47 : am_chkF 47 0 am_q47 = true := by decide +kernel
end
section
set_option maxRecDepth 100000 in
theorem am_ck48 : am_chkF 48 0 am_q48 = true := by decide +kernel
set_option maxRecDepth 100000 in
theorem am_ck49 : am_chkF 49 0 am_q49 = true := by decide +kernel
set_option maxRecDepth 100000 in
theorem am_ck50 : am_chkF 50 0 am_q50 = true := by decide +kernel
set_option maxRecDepth 100000 in
theorem am_ck51 : am_chkF 51 0 am_q51 = true := by decide +kernel
set_option maxRecDepth 100000 in
theorem am_ck52 : am_chkF 52 0 am_q52 = true := by decide +kernel
set_option maxRecDepth 100000 in
theorem am_ck53 : am_chkF 53 0 am_q53 = true := by decide +kernel
set_option maxRecDepth 100000 in
theorem am_ck54 : am_chkF 54 0 am_q54 = true := by decide +kernel
set_option maxRecDepth 100000 in
theorem am_ck55 : am_chkF 55 0 am_q55 = true := by decide +kernel
set_option maxRecDepth 100000 in
theorem am_ck56 : am_chkF 56 0 am_q56 = true := by decide +kernel
set_option maxRecDepth 100000 in
theorem am_ck57 : am_chkF 57 0 am_q57 = true := by decide +kernel
set_option maxRecDepth 100000 in
theorem am_ck58 : am_chkF 58 0 am_q58 = true := by decide +kernel
set_option maxRecDepth 100000 in
theorem am_ck59 : am_chkF 59 0 am_q59 = true := by decide +kernel
end
section
set_option maxRecDepth 100000 in
theorem am_ck60 : am_chkF 60 0 am_q60 = true := by decide +kernel
set_option maxRecDepth 100000 in
theorem am_ck61 : am_chkF 61 0 am_q61 = true := by decide +kernel
set_option maxRecDepth 100000 in
theorem am_ck62 : am_chkF 62 0 am_q62 = true := by decide +kernel
set_option maxRecDepth 100000 in
theorem am_ck63 : am_chkF 63 0 am_q63 = true := by decide +kernel
set_option maxRecDepth 100000 in
theorem am_ck64 : am_chkF 64 0 am_q64 = true := by decide +kernel
set_option maxRecDepth 100000 in
theorem am_ck65 : am_chkF 65 0 am_q65 = true := by decide +kernel
set_option maxRecDepth 100000 in
theorem am_ck66 : am_chkF 66 0 am_q66 = true := by decide +kernel
set_option maxRecDepth 100000 in
theorem am_ck67 : am_chkF 67 0 am_q67 = true := by decide +kernel
set_option maxRecDepth 100000 in
theorem am_ck68 : am_chkF 68 0 am_q68 = true := by decide +kernel
set_option maxRecDepth 100000 in
theorem am_ck69 : am_chkF 69 0 am_q69 = true := by decide +kernel
set_option maxRecDepth 100000 in
theorem am_ck70 : am_chkF 70 0 am_q70 = true := by decide +kernel
set_option maxRecDepth 100000 in
theorem am_ck71 : am_chkF 71 0 am_q71 = true := by decide +kernel
end
section
set_option maxRecDepth 100000 in
theorem am_ck72 : am_chkF 72 0 am_q72 = true := by decide +kernel
set_option maxRecDepth 100000 in
theorem am_ck73 : am_chkF 73 0 am_q73 = true := by decide +kernel
set_option maxRecDepth 100000 in
theorem am_ck74 : am_chkF 74 0 am_q74 = true := by decide +kernel
set_option maxRecDepth 100000 in
theorem am_ck75 : am_chkF 75 0 am_q75 = true := by decide +kernel
set_option maxRecDepth 100000 in
theorem am_ck76 : am_chkF 76 0 am_q76 = true := by decide +kernel
set_option maxRecDepth 100000 in
theorem am_ck77 : am_chkF 77 0 am_q77 = true := by decide +kernel
set_option maxRecDepth 100000 in
theorem am_ck78 : am_chkF 78 0 am_q78 = true := by decide +kernel
set_option maxRecDepth 100000 in
theorem am_ck79 : am_chkF 79 0 am_q79 = true := by decide +kernel
set_option maxRecDepth 100000 in
theorem am_ck80 : am_chkF 80 0 am_q80 = true := by decide +kernel
set_option maxRecDepth 100000 in
theorem am_ck81 : am_chkF 81 0 am_q81 = true := by decide +kernel
set_option maxRecDepth 100000 in
theorem am_ck82 : am_chkF 82 0 am_q82 = true := by decide +kernel
set_option maxRecDepth 100000 in
theorem am_ck83 : am_chkF 83 0 am_q83 = true := by decide +kernel
end
section
set_option maxRecDepth 100000 in
theorem am_ck84 : am_chkF 84 0 am_q84 = true := by decide +kernel
set_option maxRecDepth 100000 in
theorem am_ck85 : am_chkF 85 0 am_q85 = true := by decide +kernel
set_option maxRecDepth 100000 in
theorem am_ck86 : am_chkF 86 0 am_q86 = true := by decide +kernel
set_option maxRecDepth 100000 in
theorem am_ck87 : am_chkF 87 0 am_q87 = true := by decide +kernel
set_option maxRecDepth 100000 in
theorem am_ck88 : am_chkF 88 0 am_q88 = true := by decide +kernel
set_option maxRecDepth 100000 in
theorem am_ck89 : am_chkF 89 0 am_q89 = true := by decide +kernel
set_option maxRecDepth 100000 in
theorem am_ck90 : am_chkF 90 0 am_q90 = true := by decide +kernel
set_option maxRecDepth 100000 in
theorem am_ck91 : am_chkF 91 0 am_q91 = true := by decide +kernel
set_option maxRecDepth 100000 in
theorem am_ck92 : am_chkF 92 0 am_q92 = true := by decide +kernel
set_option maxRecDepth 100000 in
theorem am_ck93 : am_chkF 93 0 am_q93 = true := by decide +kernel
set_option maxRecDepth 100000 in
theorem am_ck94 : am_chkF 94 0 am_q94 = true := by decide +kernel
set_option maxRecDepth 100000 in
theorem am_ck95 : am_chkF 95 0 am_q95 = true := by decide +kernel
end
section
set_option maxRecDepth 100000 in
theorem am_ck96 : am_chkF 96 0 am_q96 = true := by decide +kernel
set_option maxRecDepth 100000 in
theorem am_ck97 : am_chkF 97 0 am_q97 = true := by decide +kernel
set_option maxRecDepth 100000 in
theorem am_ck98 : am_chkF 98 0 am_q98 = true := by decide +kernel
set_option maxRecDepth 100000 in
theorem am_ck99 : am_chkF 99 0 am_q99 = true := by decide +kernel
set_option maxRecDepth 100000 in
theorem am_ck100 : am_chkF 100 0 am_q100 = true := by decide +kernel
set_option maxRecDepth 100000 in
theorem am_ck101 : am_chkF 101 0 am_q101 = true := by decide +kernel
set_option maxRecDepth 100000 in
theorem am_ck102 : am_chkF 102 0 am_q102 = true := by decide +kernel
set_option maxRecDepth 100000 in
theorem am_ck103 : am_chkF 103 0 am_q103 = true := by decide +kernel
set_option maxRecDepth 100000 in
theorem am_ck104 : am_chkF 104 0 am_q104 = true := by decide +kernel
set_option maxRecDepth 100000 in
theorem am_ck105 : am_chkF 105 0 am_q105 = true := by decide +kernel
set_option maxRecDepth 100000 in
theorem am_ck106 : am_chkF 106 0 am_q106 = true := by decide +kernel
set_option maxRecDepth 100000 in
theorem am_ck107 : am_chkF 107 0 am_q107 = true := by decide +kernel
end
section
set_option maxRecDepth 100000 in
theorem am_ck108 : am_chkF 108 0 am_q108 = true := by decide +kernel
set_option maxRecDepth 100000 in
theorem am_ck109 : am_chkF 109 0 am_q109 = true := by decide +kernel
set_option maxRecDepth 100000 in
theorem am_ck110 : am_chkF 110 0 am_q110 = true := by decide +kernel
set_option maxRecDepth 100000 in
theorem am_ck111 : am_chkF 111 0 am_q111 = true := by decide +kernel
set_option maxRecDepth 100000 in
theorem am_ck112 : am_chkF 112 0 am_q112 = true := by decide +kernel
set_option maxRecDepth 100000 in
theorem am_ck113 : am_chkF 113 0 am_q113 = true := by decide +kernel
set_option maxRecDepth 100000 in
theorem am_ck114 : am_chkF 114 0 am_q114 = true := by decide +kernel
set_option maxRecDepth 100000 in
theorem am_ck115 : am_chkF 115 0 am_q115 = true := by decide +kernel
set_option maxRecDepth 100000 in
theorem am_ck116 : am_chkF 116 0 am_q116 = true := by decide +kernel
set_option maxRecDepth 100000 in
theorem am_ck117 : am_chkF 117 0 am_q117 = true := by decide +kernel
set_option maxRecDepth 100000 in
theorem am_ck118 : am_chkF 118 0 am_q118 = true := by decide +kernel
set_option maxRecDepth 100000 in
theorem am_ck119 : am_chkF 119 0 am_q119 = true := by decide +kernel
end
section
set_option maxRecDepth 100000 in
theorem am_ck120 : am_chkF 120 0 am_q120 = true := by decide +kernel
set_option maxRecDepth 100000 in
theorem am_ck121 : am_chkF 121 0 am_q121 = true := by decide +kernel
set_option maxRecDepth 100000 in
theorem am_ck122 : am_chkF 122 0 am_q122 = true := by decide +kernel
set_option maxRecDepth 100000 in
theorem am_ck123 : am_chkF 123 0 am_q123 = true := by decide +kernel
set_option maxRecDepth 100000 in
theorem am_ck124 : am_chkF 124 0 am_q124 = true := by decide +kernel
set_option maxRecDepth 100000 in
theorem am_ck125 : am_chkF 125 0 am_q125 = true := by decide +kernel
set_option maxRecDepth 100000 in
theorem am_ck126 : am_chkF 126 0 am_q126 = true := by decide +kernel
set_option maxRecDepth 100000 in
theorem am_ck127 : am_chkF 127 0 am_q127 = true := by decide +kernel
set_option maxRecDepth 100000 in
theorem am_ck128 : am_chkF 128 0 am_q128 = true := by decide +kernel
set_option maxRecDepth 100000 in
theorem am_ck129 : am_chkF 129 0 am_q129 = true := by decide +kernel
set_option maxRecDepth 100000 in
theorem am_ck130 : am_chkF 130 0 am_q130 = true := by decide +kernel
set_option maxRecDepth 100000 in
theorem am_ck131 : am_chkF 131 0 am_q131 = true := by decide +kernel
end
section
set_option maxRecDepth 100000 in
theorem am_ck132 : am_chkF 132 0 am_q132 = true := by decide +kernel
set_option maxRecDepth 100000 in
theorem am_ck133 : am_chkF 133 0 am_q133 = true := by decide +kernel
set_option maxRecDepth 100000 in
theorem am_ck134 : am_chkF 134 0 am_q134 = true := by decide +kernel
set_option maxRecDepth 100000 in
theorem am_ck135 : am_chkF 135 0 am_q135 = true := by decide +kernel
set_option maxRecDepth 100000 in
theorem am_ck136 : am_chkF 136 0 am_q136 = true := by decide +kernel
set_option maxRecDepth 100000 in
theorem am_ck137 : am_chkF 137 0 am_q137 = true := by decide +kernel
set_option maxRecDepth 100000 in
theorem am_ck138 : am_chkF 138 0 am_q138 = true := by decide +kernel
set_option maxRecDepth 100000 in
theorem am_ck139 : am_chkF 139 0 am_q139 = true := by decide +kernel
set_option maxRecDepth 100000 in
theorem am_ck140 : am_chkF 140 0 am_q140 = true := by decide +kernel
set_option maxRecDepth 100000 in
theorem am_ck141 : am_chkF 141 0 am_q141 = true := by decide +kernel
set_option maxRecDepth 100000 in
theorem am_ck142 : am_chkF 142 0 am_q142 = true := by decide +kernel
set_option maxRecDepth 100000 in
theorem am_ck143 : am_chkF 143 0 am_q143 = true := by decide +kernel
end
section
set_option maxRecDepth 100000 in
theorem am_ck144 : am_chkF 144 0 am_q144 = true := by decide +kernel
set_option maxRecDepth 100000 in
theorem am_ck145 : am_chkF 145 0 am_q145 = true := by decide +kernel
set_option maxRecDepth 100000 in
theorem am_ck146 : am_chkF 146 0 am_q146 = true := by decide +kernel
set_option maxRecDepth 100000 in
theorem am_ck147 : am_chkF 147 0 am_q147 = true := by decide +kernel
set_option maxRecDepth 100000 in
theorem am_ck148 : am_chkF 148 0 am_q148 = true := by decide +kernel
set_option maxRecDepth 100000 in
theorem am_ck149 : am_chkF 149 0 am_q149 = true := by decide +kernel
set_option maxRecDepth 100000 in
theorem am_ck150 : am_chkF 150 0 am_q150 = true := by decide +kernel
set_option maxRecDepth 100000 in
theorem am_ck151 : am_chkF 151 0 am_q151 = true := by decide +kernel
set_option maxRecDepth 100000 in
theorem am_ck152 : am_chkF 152 0 am_q152 = true := by decide +kernel
set_option maxRecDepth 100000 in
theorem am_ck153 : am_chkF 153 0 am_q153 = true := by decide +kernel
set_option maxRecDepth 100000 in
theorem am_ck154 : am_chkF 154 0 am_q154 = true := by decide +kernel
set_option maxRecDepth 100000 in
theorem am_ck155 : am_chkF 155 0 am_q155 = true := by decide +kernel
end
section
set_option maxRecDepth 100000 in
theorem am_ck156 : am_chkF 156 0 am_q156 = true := by decide +kernel
set_option maxRecDepth 100000 in
theorem am_ck157 : am_chkF 157 0 am_q157 = true := by decide +kernel
set_option maxRecDepth 100000 in
theorem am_ck158 : am_chkF 158 0 am_q158 = true := by decide +kernel
set_option maxRecDepth 100000 in
theorem am_ck159 : am_chkF 159 0 am_q159 = true := by decide +kernel
set_option maxRecDepth 100000 in
theorem am_ck160 : am_chkF 160 0 am_q160 = true := by decide +kernel
set_option maxRecDepth 100000 in
theorem am_ck161 : am_chkF 161 0 am_q161 = true := by decide +kernel
set_option maxRecDepth 100000 in
theorem am_ck162 : am_chkF 162 0 am_q162 = true := by decide +kernel
set_option maxRecDepth 100000 in
theorem am_ck163 : am_chkF 163 0 am_q163 = true := by decide +kernel
set_option maxRecDepth 100000 in
theorem am_ck164 : am_chkF 164 0 am_q164 = true := by decide +kernel
set_option maxRecDepth 100000 in
theorem am_ck165 : am_chkF 165 0 am_q165 = true := by decide +kernel
set_option maxRecDepth 100000 in
theorem am_ck166 : am_chkF 166 0 am_q166 = true := by decide +kernel
set_option maxRecDepth 100000 in
theorem am_ck167 : am_chkF 167 0 am_q167 = true := by decide +kernel
end
section
set_option maxRecDepth 100000 in
theorem am_ck168 : am_chkF 168 0 am_q168 = true := by decide +kernel
set_option maxRecDepth 100000 in
theorem am_ck169 : am_chkF 169 0 am_q169 = true := by decide +kernel
set_option maxRecDepth 100000 in
theorem am_ck170 : am_chkF 170 0 am_q170 = true := by decide +kernel
set_option maxRecDepth 100000 in
theorem am_ck171 : am_chkF 171 0 am_q171 = true := by decide +kernel
set_option maxRecDepth 100000 in
theorem am_ck172 : am_chkF 172 0 am_q172 = true := by decide +kernel
set_option maxRecDepth 100000 in
theorem am_ck173 : am_chkF 173 0 am_q173 = true := by decide +kernel
set_option maxRecDepth 100000 in
theorem am_ck174 : am_chkF 174 0 am_q174 = true := by decide +kernel
set_option maxRecDepth 100000 in
theorem am_ck175 : am_chkF 175 0 am_q175 = true := by decide +kernel
end
section
set_option maxRecDepth 100000 in
theorem am_ck176_0 : am_chkF 176 0 ((am_q176.drop 0).take 50) = true := by decide +kernel
set_option maxRecDepth 100000 in
theorem am_ck176_1 : am_chkF 176 50 ((am_q176.drop 50).take 50) = true := by decide +kernel
set_option maxRecDepth 100000 in
theorem am_ck176_2 : am_chkF 176 100 ((am_q176.drop 100).take 50) = true := by decide +kernel
set_option maxRecDepth 100000 in
theorem am_ck176_3 : am_chkF 176 150 ((am_q176.drop 150).take 50) = true := by decide +kernel
end
section
set_option maxRecDepth 100000 in
theorem am_ck176_4 : am_chkF 176 200 ((am_q176.drop 200).take 50) = true := by decide +kernel
set_option maxRecDepth 100000 in
theorem am_ck176_5 : am_chkF 176 250 ((am_q176.drop 250).take 50) = true := by decide +kernel
set_option maxRecDepth 100000 in
theorem am_ck176_6 : am_chkF 176 300 ((am_q176.drop 300).take 50) = true := by decide +kernel
set_option maxRecDepth 100000 in
theorem am_ck176_7 : am_chkF 176 350 ((am_q176.drop 350).take 50) = true := by decide +kernel
end
section
set_option maxRecDepth 100000 in
theorem am_ck176_8 : am_chkF 176 400 ((am_q176.drop 400).take 50) = true := by decide +kernel
set_option maxRecDepth 100000 in
theorem am_ck176_9 : am_chkF 176 450 ((am_q176.drop 450).take 50) = true := by decide +kernel
set_option maxRecDepth 100000 in
theorem am_ck176_10 : am_chkF 176 500 ((am_q176.drop 500).take 50) = true := by decide +kernel
set_option maxRecDepth 100000 in
theorem am_ck176_11 : am_chkF 176 550 ((am_q176.drop 550).take 50) = true := by decide +kernel
end
section
set_option maxRecDepth 100000 in
theorem am_ck176_12 : am_chkF 176 600 ((am_q176.drop 600).take 50) = true := by decide +kernel
set_option maxRecDepth 100000 in
theorem am_ck176_13 : am_chkF 176 650 ((am_q176.drop 650).take 50) = true := by decide +kernel
set_option maxRecDepth 100000 in
theorem am_ck176_14 : am_chkF 176 700 ((am_q176.drop 700).take 50) = true := by decide +kernel
set_option maxRecDepth 100000 in
theorem am_ck176_15 : am_chkF 176 750 ((am_q176.drop 750).take 50) = true := by decide +kernel
end
section
set_option maxRecDepth 100000 in
theorem am_ck176_16 : am_chkF 176 800 ((am_q176.drop 800).take 50) = true := by decide +kernel
set_option maxRecDepth 100000 in
theorem am_ck176_17 : am_chkF 176 850 ((am_q176.drop 850).take 50) = true := by decide +kernel
end
section
/-- a method's words by their places -/
def am_mchk (k pc pi p1 p2 : Nat) : Bool := am_word pc (am_cw am_M1 k) && goodWord (am_cw am_M1 k) && am_word pi (.initialized (am_M1 k).1.cls) && decide ((am_M1 k).2.2.1 ≤ 40) && plainFor (am_M1 k).1 && decide ((am_M1 k).1.cls ≠ "java/lang/invoke/MethodHandle") && decide ((am_M1 k).1.cls ≠ "java/lang/invoke/VarHandle") &&
  (match am_kd k with
  | 0 => am_word p1 (.instanceMethod (am_M1 k).1) && am_word p2 (.selects (am_M1 k).1.cls (am_M1 k).1 (am_M1 k).1) && (am_M1 k).2.2.2.2.isEmpty
  | 1 => am_word p1 (.static (am_M1 k).1)
  | 2 => am_word p1 (.instanceMethod (am_M1 k).1) && decide ((am_M1 k).1.name = "<init>") && decide ((am_M1 k).2.2.2.1 = none) && (am_M1 k).2.2.2.2.isEmpty
  | _ => false)
theorem am_mchk_ok {k pc pi p1 p2 : Nat} (h : am_mchk k pc pi p1 p2 = true) : am_mok am_M1 am_kd k := by
  unfold am_mchk at h
  simp only [Bool.and_eq_true, decide_eq_true_eq] at h
  obtain ⟨⟨⟨⟨⟨⟨⟨h1, hg⟩, h2⟩, h3⟩, h4⟩, h5⟩, h6⟩, h7⟩ := h
  refine ⟨am_word_gw h1 hg, am_word_gw h2 rfl, h3, h4, ⟨h5, h6⟩, fun e0 => ?_, fun e0 => ?_, fun e0 => ?_⟩
  · rw [e0] at h7
    simp only [Bool.and_eq_true] at h7
    exact ⟨am_word_gw h7.1.1 rfl, am_word_gw h7.1.2 rfl, List.isEmpty_iff.mp h7.2⟩
  · rw [e0] at h7
    exact am_word_gw h7 rfl
  · rw [e0] at h7
    simp only [Bool.and_eq_true, decide_eq_true_eq] at h7
    exact ⟨am_word_gw h7.1.1.1 rfl, h7.1.1.2, h7.1.2, List.isEmpty_iff.mp h7.2⟩
end
section
theorem am_mk0 : am_mchk 0 149 78 148 0 = true := by decide +kernel
theorem am_mk1 : am_mchk 1 713 78 711 712 = true := by decide +kernel
theorem am_mk2 : am_mchk 2 718 78 716 717 = true := by decide +kernel
theorem am_mk3 : am_mchk 3 772 78 770 771 = true := by decide +kernel
theorem am_mk4 : am_mchk 4 777 78 776 13 = true := by decide +kernel
theorem am_mk5 : am_mchk 5 229 81 228 0 = true := by decide +kernel
theorem am_mk6 : am_mchk 6 631 81 629 630 = true := by decide +kernel
theorem am_mk7 : am_mchk 7 646 81 644 645 = true := by decide +kernel
theorem am_mk8 : am_mchk 8 693 81 692 4 = true := by decide +kernel
theorem am_mk9 : am_mchk 9 705 81 704 5 = true := by decide +kernel
theorem am_mk10 : am_mchk 10 709 81 708 6 = true := by decide +kernel
theorem am_mk11 : am_mchk 11 665 81 663 664 = true := by decide +kernel
theorem am_mk12 : am_mchk 12 697 81 695 696 = true := by decide +kernel
theorem am_mk13 : am_mchk 13 701 81 699 700 = true := by decide +kernel
theorem am_mk14 : am_mchk 14 766 81 764 765 = true := by decide +kernel
theorem am_mk15 : am_mchk 15 781 81 779 780 = true := by decide +kernel
theorem am_mk16 : am_mchk 16 518 81 516 517 = true := by decide +kernel
theorem am_mk17 : am_mchk 17 340 83 339 0 = true := by decide +kernel
theorem am_mk18 : am_mchk 18 482 83 480 481 = true := by decide +kernel
theorem am_mk19 : am_mchk 19 873 83 871 872 = true := by decide +kernel
theorem am_mk20 : am_mchk 20 877 83 876 16 = true := by decide +kernel
theorem am_mk21 : am_mchk 21 881 83 880 17 = true := by decide +kernel
theorem am_mk22 : am_mchk 22 885 83 884 18 = true := by decide +kernel
theorem am_mk23 : am_mchk 23 889 83 888 19 = true := by decide +kernel
theorem am_mk24 : am_mchk 24 893 83 892 20 = true := by decide +kernel
end
section
theorem am_mk25 : am_mchk 25 897 83 896 21 = true := by decide +kernel
theorem am_mk26 : am_mchk 26 901 83 900 22 = true := by decide +kernel
theorem am_mk27 : am_mchk 27 906 83 904 905 = true := by decide +kernel
theorem am_mk28 : am_mchk 28 912 83 911 23 = true := by decide +kernel
theorem am_mk29 : am_mchk 29 397 85 396 0 = true := by decide +kernel
theorem am_mk30 : am_mchk 30 494 85 492 493 = true := by decide +kernel
theorem am_mk31 : am_mchk 31 526 85 524 525 = true := by decide +kernel
theorem am_mk32 : am_mchk 32 530 85 528 529 = true := by decide +kernel
theorem am_mk33 : am_mchk 33 185 79 184 0 = true := by decide +kernel
theorem am_mk34 : am_mchk 34 552 79 550 551 = true := by decide +kernel
theorem am_mk35 : am_mchk 35 560 79 558 559 = true := by decide +kernel
theorem am_mk36 : am_mchk 36 762 79 761 12 = true := by decide +kernel
theorem am_mk37 : am_mchk 37 816 79 814 815 = true := by decide +kernel
theorem am_mk38 : am_mchk 38 498 79 496 497 = true := by decide +kernel
theorem am_mk39 : am_mchk 39 510 79 509 0 = true := by decide +kernel
theorem am_mk40 : am_mchk 40 514 79 513 1 = true := by decide +kernel
theorem am_mk41 : am_mchk 41 106 77 105 0 = true := by decide +kernel
theorem am_mk42 : am_mchk 42 466 77 464 465 = true := by decide +kernel
theorem am_mk43 : am_mchk 43 548 77 546 547 = true := by decide +kernel
theorem am_mk44 : am_mchk 44 564 77 562 563 = true := by decide +kernel
theorem am_mk45 : am_mchk 45 638 77 636 637 = true := by decide +kernel
theorem am_mk46 : am_mchk 46 642 77 640 641 = true := by decide +kernel
theorem am_mk47 : am_mchk 47 677 77 675 676 = true := by decide +kernel
theorem am_mk48 : am_mchk 48 673 77 671 672 = true := by decide +kernel
theorem am_mk49 : am_mchk 49 658 77 656 657 = true := by decide +kernel
end
section
theorem am_mk50 : am_mchk 50 654 77 652 653 = true := by decide +kernel
theorem am_mk51 : am_mchk 51 650 77 648 649 = true := by decide +kernel
theorem am_mk52 : am_mchk 52 689 77 687 688 = true := by decide +kernel
theorem am_mk53 : am_mchk 53 744 77 742 743 = true := by decide +kernel
theorem am_mk54 : am_mchk 54 383 84 382 0 = true := by decide +kernel
theorem am_mk55 : am_mchk 55 934 84 932 933 = true := by decide +kernel
theorem am_mk56 : am_mchk 56 938 84 936 937 = true := by decide +kernel
theorem am_mk57 : am_mchk 57 942 84 940 941 = true := by decide +kernel
theorem am_mk58 : am_mchk 58 949 84 947 948 = true := by decide +kernel
theorem am_mk59 : am_mchk 59 236 82 235 0 = true := by decide +kernel
theorem am_mk60 : am_mchk 60 669 82 667 668 = true := by decide +kernel
theorem am_mk61 : am_mchk 61 684 82 683 3 = true := by decide +kernel
theorem am_mk62 : am_mchk 62 506 82 504 505 = true := by decide +kernel
theorem am_mk63 : am_mchk 63 193 80 192 0 = true := by decide +kernel
theorem am_mk64 : am_mchk 64 556 80 554 555 = true := by decide +kernel
theorem am_mk65 : am_mchk 65 727 80 726 7 = true := by decide +kernel
theorem am_mk66 : am_mchk 66 733 80 732 8 = true := by decide +kernel
theorem am_mk67 : am_mchk 67 755 80 754 11 = true := by decide +kernel
theorem am_mk68 : am_mchk 68 739 80 738 9 = true := by decide +kernel
theorem am_mk69 : am_mchk 69 750 80 749 10 = true := by decide +kernel
theorem am_mk70 : am_mchk 70 522 80 520 521 = true := by decide +kernel
theorem am_mk71 : am_mchk 71 502 80 500 501 = true := by decide +kernel
theorem am_mk72 : am_mchk 72 98 76 97 0 = true := by decide +kernel
theorem am_mk73 : am_mchk 73 462 76 460 461 = true := by decide +kernel
theorem am_mk74 : am_mchk 74 544 76 542 543 = true := by decide +kernel
end
section
theorem am_mk75 : am_mchk 75 470 76 468 469 = true := by decide +kernel
theorem am_mk76 : am_mchk 76 474 76 472 473 = true := by decide +kernel
theorem am_mk77 : am_mchk 77 793 76 791 792 = true := by decide +kernel
theorem am_mk78 : am_mchk 78 832 76 830 831 = true := by decide +kernel
theorem am_mk79 : am_mchk 79 840 76 838 839 = true := by decide +kernel
theorem am_mk80 : am_mchk 80 862 76 860 861 = true := by decide +kernel
theorem am_mk81 : am_mchk 81 478 76 476 477 = true := by decide +kernel
theorem am_mk82 : am_mchk 82 869 76 867 868 = true := by decide +kernel
theorem am_mk83 : am_mchk 83 486 76 484 485 = true := by decide +kernel
theorem am_mk84 : am_mchk 84 919 76 917 918 = true := by decide +kernel
theorem am_mk85 : am_mchk 85 926 76 924 925 = true := by decide +kernel
theorem am_mk86 : am_mchk 86 490 76 488 489 = true := by decide +kernel
theorem am_mk87 : am_mchk 87 959 76 957 958 = true := by decide +kernel
theorem am_mk88 : am_mchk 88 797 76 796 15 = true := by decide +kernel
theorem am_mk89 : am_mchk 89 785 76 784 14 = true := by decide +kernel
theorem am_mk90 : am_mchk 90 930 76 929 24 = true := by decide +kernel
theorem am_mk91 : am_mchk 91 964 86 963 0 = true := by decide +kernel
theorem am_mk92 : am_mchk 92 1144 86 1142 1143 = true := by decide +kernel
theorem am_mk93 : am_mchk 93 1278 86 1277 54 = true := by decide +kernel
theorem am_mk94 : am_mchk 94 1148 86 1146 1147 = true := by decide +kernel
theorem am_mk95 : am_mchk 95 1168 86 1167 28 = true := by decide +kernel
theorem am_mk96 : am_mchk 96 1160 86 1159 26 = true := by decide +kernel
theorem am_mk97 : am_mchk 97 1206 86 1205 37 = true := by decide +kernel
theorem am_mk98 : am_mchk 98 1192 86 1191 34 = true := by decide +kernel
theorem am_mk99 : am_mchk 99 1188 86 1187 33 = true := by decide +kernel
end
section
theorem am_mk100 : am_mchk 100 1172 86 1171 29 = true := by decide +kernel
theorem am_mk101 : am_mchk 101 1176 86 1175 30 = true := by decide +kernel
theorem am_mk102 : am_mchk 102 1202 86 1201 36 = true := by decide +kernel
theorem am_mk103 : am_mchk 103 1214 86 1213 39 = true := by decide +kernel
theorem am_mk104 : am_mchk 104 1244 86 1243 46 = true := by decide +kernel
theorem am_mk105 : am_mchk 105 1240 86 1239 45 = true := by decide +kernel
theorem am_mk106 : am_mchk 106 1236 86 1235 44 = true := by decide +kernel
theorem am_mk107 : am_mchk 107 1262 86 1261 50 = true := by decide +kernel
theorem am_mk108 : am_mchk 108 1232 86 1231 43 = true := by decide +kernel
theorem am_mk109 : am_mchk 109 1248 86 1247 47 = true := by decide +kernel
theorem am_mk110 : am_mchk 110 1252 86 1251 48 = true := by decide +kernel
theorem am_mk111 : am_mchk 111 1256 86 1255 49 = true := by decide +kernel
theorem am_mk112 : am_mchk 112 1152 86 1150 1151 = true := by decide +kernel
theorem am_mk113 : am_mchk 113 1164 86 1163 27 = true := by decide +kernel
theorem am_mk114 : am_mchk 114 1156 86 1155 25 = true := by decide +kernel
theorem am_mk115 : am_mchk 115 1184 86 1183 32 = true := by decide +kernel
theorem am_mk116 : am_mchk 116 1180 86 1179 31 = true := by decide +kernel
theorem am_mk117 : am_mchk 117 1197 86 1196 35 = true := by decide +kernel
theorem am_mk118 : am_mchk 118 1210 86 1209 38 = true := by decide +kernel
theorem am_mk119 : am_mchk 119 1218 86 1217 40 = true := by decide +kernel
theorem am_mk120 : am_mchk 120 1224 86 1223 41 = true := by decide +kernel
theorem am_mk121 : am_mchk 121 1228 86 1227 42 = true := by decide +kernel
theorem am_mk122 : am_mchk 122 1266 86 1265 51 = true := by decide +kernel
theorem am_mk123 : am_mchk 123 1274 86 1273 53 = true := by decide +kernel
theorem am_mk124 : am_mchk 124 1270 86 1269 52 = true := by decide +kernel
end
section
theorem am_mk125 : am_mchk 125 1282 86 1280 1281 = true := by decide +kernel
theorem am_mk126 : am_mchk 126 1286 86 1284 1285 = true := by decide +kernel
theorem am_mk127 : am_mchk 127 1294 86 1293 55 = true := by decide +kernel
theorem am_mk128 : am_mchk 128 1298 86 1297 56 = true := by decide +kernel
theorem am_mk129 : am_mchk 129 1305 86 1304 0 = true := by decide +kernel
theorem am_mk130 : am_mchk 130 1302 86 1301 57 = true := by decide +kernel
theorem am_mk131 : am_mchk 131 1290 86 1288 1289 = true := by decide +kernel
theorem am_mk132 : am_mchk 132 1334 86 1333 63 = true := by decide +kernel
theorem am_mk133 : am_mchk 133 1330 86 1329 62 = true := by decide +kernel
theorem am_mk134 : am_mchk 134 1322 86 1321 60 = true := by decide +kernel
theorem am_mk135 : am_mchk 135 1318 86 1317 59 = true := by decide +kernel
theorem am_mk136 : am_mchk 136 1326 86 1325 61 = true := by decide +kernel
theorem am_mk137 : am_mchk 137 1314 86 1313 58 = true := by decide +kernel
theorem am_mk138 : am_mchk 138 1310 86 1308 1309 = true := by decide +kernel
theorem am_mk139 : am_mchk 139 1342 86 1341 64 = true := by decide +kernel
theorem am_mk140 : am_mchk 140 1346 86 1345 65 = true := by decide +kernel
theorem am_mk141 : am_mchk 141 1338 86 1336 1337 = true := by decide +kernel
theorem am_mk142 : am_mchk 142 1351 86 1349 1350 = true := by decide +kernel
theorem am_mk143 : am_mchk 143 1355 86 1353 1354 = true := by decide +kernel
theorem am_mk144 : am_mchk 144 1367 86 1366 67 = true := by decide +kernel
theorem am_mk145 : am_mchk 145 1377 86 1376 0 = true := by decide +kernel
theorem am_mk146 : am_mchk 146 1374 86 1373 0 = true := by decide +kernel
theorem am_mk147 : am_mchk 147 1380 86 1379 0 = true := by decide +kernel
theorem am_mk148 : am_mchk 148 1363 86 1362 66 = true := by decide +kernel
theorem am_mk149 : am_mchk 149 1371 86 1370 68 = true := by decide +kernel
end
section
theorem am_mk150 : am_mchk 150 1389 86 1388 70 = true := by decide +kernel
theorem am_mk151 : am_mchk 151 1385 86 1384 69 = true := by decide +kernel
theorem am_mk152 : am_mchk 152 1359 86 1357 1358 = true := by decide +kernel
theorem am_mk153 : am_mchk 153 1393 86 1391 1392 = true := by decide +kernel
theorem am_mk154 : am_mchk 154 1397 86 1395 1396 = true := by decide +kernel
theorem am_mk155 : am_mchk 155 1405 86 1404 71 = true := by decide +kernel
theorem am_mk156 : am_mchk 156 1409 86 1408 72 = true := by decide +kernel
theorem am_mk157 : am_mchk 157 1401 86 1399 1400 = true := by decide +kernel
theorem am_mk158 : am_mchk 158 1417 86 1416 73 = true := by decide +kernel
theorem am_mk159 : am_mchk 159 1413 86 1411 1412 = true := by decide +kernel
theorem am_mk160 : am_mchk 160 1421 86 1420 74 = true := by decide +kernel
theorem am_mk161 : am_mchk 161 1425 86 1423 1424 = true := by decide +kernel
theorem am_mk162 : am_mchk 162 819 92 818 0 = true := by decide +kernel
theorem am_mk163 : am_mchk 163 823 92 822 0 = true := by decide +kernel
theorem am_mk164 : am_mchk 164 945 92 944 0 = true := by decide +kernel
theorem am_mk165 : am_mchk 165 536 92 535 0 = true := by decide +kernel
theorem am_mk166 : am_mchk 166 533 92 532 0 = true := by decide +kernel
theorem am_mk167 : am_mchk 167 539 75 538 0 = true := by decide +kernel
theorem am_mk168 : am_mchk 168 788 75 787 0 = true := by decide +kernel
theorem am_mk169 : am_mchk 169 828 75 827 0 = true := by decide +kernel
theorem am_mk170 : am_mchk 170 835 75 834 0 = true := by decide +kernel
theorem am_mk171 : am_mchk 171 858 75 857 0 = true := by decide +kernel
theorem am_mk172 : am_mchk 172 865 75 864 0 = true := by decide +kernel
theorem am_mk173 : am_mchk 173 915 75 914 0 = true := by decide +kernel
theorem am_mk174 : am_mchk 174 922 75 921 0 = true := by decide +kernel
end
section
theorem am_mk175 : am_mchk 175 955 75 954 0 = true := by decide +kernel
end
section
/-! how a small heap, its values and locals lie in the machine's -/
/-- what does not change in a run: class numbers and slots, array classes, where the new cells begin, the script's cell, SIGNATURE's, the script -/
abbrev am_G : Type := va_G × (Nat → ClassId) × Nat × Nat × Nat × Nat × (Nat → Int32)
abbrev am_b0 (G : am_G) : Nat := G.2.2.1
abbrev am_X (G : am_G) : Nat × (Nat → Int32) := G.2.2.2.2.2
def am_A (G : am_G) : Nat → Prop := fun q => am_b0 G ≤ q
def am_ad (G : am_G) (i : Nat) : Nat := if i = 1000000 then G.2.2.2.1 else if i = 1000001 then G.2.2.2.2.1 else am_b0 G + i
def am_v (G : am_G) (v : Value) : Value := match v with
  | .ref i => .ref (am_ad G i)
  | x => x
def am_ra (G : am_G) (x : vp_A) : vp_A := match x with
  | (n, .inr (.inr (.inr (.inr f)))) => (n, .inr (.inr (.inr (.inr (fun j => (f j).map (am_ad G))))))
  | y => y
def am_e (G : am_G) (x : am_C) : va_E := match x with
  | .inl (t, a) => .inl (G.2.1 t, am_ra G a)
  | .inr (ci, fs) => .inr (ci, fs.map (am_v G))
def am_ws (G : am_G) (S : am_S) : va_W := (List.range S.1).map (fun k => (am_b0 G + k, am_e G (S.2.1 k)))
def am_tys (G : am_G) : List (ClassId × FieldType) := (List.range 6).map (fun t => (G.2.1 t, am_ty t))
theorem am_v_cat (G : am_G) (v : Value) : (am_v G v).category = v.category := by cases v <;> rfl
theorem am_v_cats (G : am_G) (l : List Value) : ((l.map (am_v G)).map fun v => v.category).sum = (l.map fun v => v.category).sum := by
  induction l with
  | nil => rfl
  | cons a t ih => simp only [List.map_cons, List.sum_cons, am_v_cat, ih]
theorem am_ws_at {G : am_G} {S : am_S} {a : Nat} (h : a < S.1) : (am_ws G S)[a]? = some (am_b0 G + a, am_e G (S.2.1 a)) := by
  simp [am_ws, h]
theorem am_ws_len (G : am_G) (S : am_S) : (am_ws G S).length = S.1 := by simp [am_ws]
theorem am_ws_inv {G : am_G} {S : am_S} {k : Nat} {q : Nat × va_E} (h : (am_ws G S)[k]? = some q) : k < S.1 ∧ q = (am_b0 G + k, am_e G (S.2.1 k)) := by
  have hk : k < (am_ws G S).length := (List.getElem?_eq_some_iff.mp h).1
  rw [am_ws_len] at hk
  rw [am_ws_at hk] at h
  exact ⟨hk, (Option.some.inj h).symm⟩
theorem am_ws_upd {G : am_G} {S : am_S} {a : Nat} (x : am_C) (h : a < S.1) : (am_ws G S).set a (am_b0 G + a, am_e G x) = am_ws G (am_upd S a x) := by
  apply List.ext_getElem?
  intro j
  rw [List.getElem?_set]
  by_cases hj : j < S.1
  · rw [am_ws_at (S := am_upd S a x) hj]
    by_cases e : a = j
    · subst e
      simp [am_ws_len, h, am_upd]
    · have e2 : ¬ j = a := fun q => e q.symm
      simp [e, am_ws_at hj, am_upd, e2]
  · have h1 : (am_ws G S)[j]? = none := List.getElem?_eq_none (by rw [am_ws_len]; omega)
    have h2 : (am_ws G (am_upd S a x))[j]? = none := List.getElem?_eq_none (by rw [am_ws_len]; show S.1 ≤ j; omega)
    have e : ¬ a = j := by omega
    rw [h2]
    simp [e, h1]
theorem am_ws_push {G : am_G} {S : am_S} (x : am_C) (n : Nat) : am_ws G S ++ [(am_b0 G + S.1, am_e G x)] = am_ws G (am_push S x n) := by
  apply List.ext_getElem?
  intro j
  by_cases hj : j < S.1
  · rw [List.getElem?_append_left (by rw [am_ws_len]; exact hj), am_ws_at hj, am_ws_at (S := am_push S x n) (show j < S.1 + 1 by omega)]
    have e : ¬ j = S.1 := by omega
    simp [am_push, e]
  · rw [List.getElem?_append_right (by rw [am_ws_len]; omega), am_ws_len]
    by_cases e : j = S.1
    · subst e
      rw [am_ws_at (S := am_push S x n) (show S.1 < S.1 + 1 by omega)]
      simp [am_push]
    · rw [List.getElem?_eq_none (by simp; omega), List.getElem?_eq_none (by rw [am_ws_len]; show S.1 + 1 ≤ j; omega)]
theorem am_ws_D (G : am_G) (S : am_S) : va_D (am_A G) (am_ws G S) := by
  refine ⟨fun i j p q hi hj e => ?_, fun k q hk => ?_⟩
  · obtain ⟨-, rfl⟩ := am_ws_inv hi
    obtain ⟨-, rfl⟩ := am_ws_inv hj
    have e' : am_b0 G + i = am_b0 G + j := e
    omega
  · obtain ⟨-, rfl⟩ := am_ws_inv hk
    show am_b0 G ≤ am_b0 G + k
    omega
theorem am_ad_low {G : am_G} {a : Nat} (h : a < 1000000) : am_ad G a = am_b0 G + a := by
  unfold am_ad
  rw [if_neg (by omega), if_neg (by omega)]
/-- the small heap lies in H -/
def am_world (G : am_G) (S : am_S) (H : Heap) : Prop := va_P G.1 vwCl (am_ws G S) H ∧ S.1 ≤ 1000000
def am_env (G : am_G) (s : State) : Prop :=
  va_K G.1 vwCl (am_tys G) s ∧ vx_Zq Bundle.tN "UNASSIGNED_STACK" Bundle.steD (am_A G) s s.heap ∧ vx_Zq Bundle.tN "SUPPRESSED_SENTINEL" Bundle.listD (am_A G) s s.heap ∧
  (va_X G.2.2.2.1 (am_X G).1 (am_X G).2 s s.heap ∧ G.2.2.2.1 < am_b0 G) ∧
  (va_Z RX1 "SIGNATURE" "[I" (.ref G.2.2.2.2.1) (am_A G) s s.heap ∧ va_T .int G.2.2.2.2.1 5 (fun j => .int (am_sig j)) (am_A G) s s.heap ∧ G.2.2.2.2.1 < am_b0 G) ∧
  (∀ w ∈ am_nw, va_Nw w s) ∧ (va_AO RX1 s ∧ va_AO RX7 s) ∧ am_b0 G ≤ s.heap.size ∧
  (∀ a b : Nat, a < 3 → b < 3 → a ≠ b → va_Nc (am_exc (100 + a)) (am_exc (100 + b)) s)
/-- the locals: what the small list tells is held -/
def am_ls (G : am_G) (ls : Array Slot) (n : Nat) (L : am_L) : Prop := ls.size = n ∧ lv_wf ls ∧ L.length = n ∧ ∀ (i : Nat) (v : Value), L[i]? = some (some v) → ls[i]? = some (.val (am_v G v))
def am_pairs (G : am_G) (L : am_L) : List (Nat × Value) := (List.range L.length).filterMap (fun i => match L[i]? with
  | some (some v) => some (i, am_v G v)
  | _ => none)
theorem am_pairs_mem {G : am_G} {L : am_L} {q : Nat × Value} : q ∈ am_pairs G L ↔ ∃ v, L[q.1]? = some (some v) ∧ q.2 = am_v G v := by
  unfold am_pairs
  rw [List.mem_filterMap]
  constructor
  · rintro ⟨i, -, hi⟩
    split at hi
    · rename_i v hv
      cases hi
      exact ⟨v, hv, rfl⟩
    · cases hi
  · rintro ⟨v, hv, e⟩
    refine ⟨q.1, List.mem_range.mpr ((List.getElem?_eq_some_iff.mp hv).1), ?_⟩
    rw [hv]
    simp only [← e]
theorem am_ls_has {G : am_G} {ls : Array Slot} {n : Nat} {L : am_L} (h : am_ls G ls n L) : lv_has ls n (am_pairs G L) := by
  refine ⟨h.1, h.2.1, fun q hq => ?_⟩
  obtain ⟨v, hv, e⟩ := am_pairs_mem.mp hq
  rw [e]
  exact h.2.2.2 _ _ hv
theorem am_kill_len (L : am_L) (j : Nat) : (am_kill L j).length = L.length := by
  unfold am_kill
  split
  · rfl
  · split
    · split <;> simp
    · rfl
theorem am_set_len (L : am_L) (j : Nat) (v : Value) : (am_set L j v).length = L.length := by
  unfold am_set
  split <;> simp [am_kill_len]
theorem am_kill_other {L : am_L} {j i : Nat} {w : Value} (h : (am_kill L j)[i]? = some (some w)) : L[i]? = some (some w) ∧ ¬ (i + 1 = j ∧ w.category = 2) := by
  cases j with
  | zero => exact ⟨h, fun e => by omega⟩
  | succ m =>
    unfold am_kill at h
    dsimp only at h
    split at h
    · rename_i u hu
      split at h
      · rename_i hcu
        rw [List.getElem?_set] at h
        split at h
        · split at h <;> cases h
        · rename_i hne
          exact ⟨h, fun e => hne (by omega)⟩
      · rename_i hcu
        refine ⟨h, fun e => ?_⟩
        have e1 : i = m := by omega
        subst e1
        rw [hu] at h
        cases h
        exact hcu e.2
    · rename_i hno
      refine ⟨h, fun e => ?_⟩
      have e1 : i = m := by omega
      subst e1
      exact hno _ h
theorem am_set_self {L : am_L} {j : Nat} {v w : Value} (h : (am_set L j v)[j]? = some (some w)) : w = v := by
  unfold am_set at h
  split at h
  · rw [List.getElem?_set, if_neg (by omega), List.getElem?_set, if_pos rfl] at h
    split at h
    · exact (Option.some.inj (Option.some.inj h)).symm
    · exact absurd h (by simp)
  · rw [List.getElem?_set, if_pos rfl] at h
    split at h
    · exact (Option.some.inj (Option.some.inj h)).symm
    · exact absurd h (by simp)
/-- a place that a store leaves as it was -/
theorem am_set_other {L : am_L} {j i : Nat} {v w : Value} (h : (am_set L j v)[i]? = some (some w)) (hi : ¬ i = j) : L[i]? = some (some w) ∧ ¬ (i + 1 = j ∧ w.category = 2) ∧ ¬ (i = j + 1 ∧ v.category = 2) := by
  unfold am_set at h
  split at h
  · rw [List.getElem?_set] at h
    split at h
    · split at h
      · exact absurd h (by simp)
      · exact absurd h (by simp)
    · rename_i hne
      rw [List.getElem?_set, if_neg (fun e => hi e.symm)] at h
      obtain ⟨h1, h2⟩ := am_kill_other h
      exact ⟨h1, h2, fun e => hne e.1.symm⟩
  · rename_i hc
    rw [List.getElem?_set, if_neg (fun e => hi e.symm)] at h
    obtain ⟨h1, h2⟩ := am_kill_other h
    exact ⟨h1, h2, fun e => hc e.2⟩
theorem am_ls_set1 {G : am_G} {ls ls' : Array Slot} {n j : Nat} {L : am_L} {v : Value} (h : am_ls G ls n L) (hc : v.category = 1)
    (h' : lv_has ls' n ((j, am_v G v) :: (am_pairs G L).filter (fun q => !(q.1 == j) && !(q.1 + 1 == j && q.2.category == 2)))) : am_ls G ls' n (am_set L j v) := by
  refine ⟨h'.1, h'.2.1, by rw [am_set_len]; exact h.2.2.1, fun i w hw => ?_⟩
  by_cases hi : i = j
  · subst hi
    have hv : w = v := am_set_self hw
    rw [hv]
    exact h'.2.2 _ List.mem_cons_self
  · obtain ⟨h1, h2, -⟩ := am_set_other hw hi
    refine h'.2.2 (i, am_v G w) (List.mem_cons_of_mem _ (List.mem_filter.mpr ⟨am_pairs_mem.mpr ⟨w, h1, rfl⟩, ?_⟩))
    simp only [Bool.and_eq_true, Bool.not_eq_true', beq_eq_false_iff_ne, ne_eq, Bool.and_eq_false_iff, am_v_cat]
    refine ⟨hi, ?_⟩
    by_cases e : i + 1 = j
    · exact Or.inr fun e2 => h2 ⟨e, e2⟩
    · exact Or.inl e
theorem am_ls_set2 {G : am_G} {ls ls' : Array Slot} {n j : Nat} {L : am_L} {v : Value} (h : am_ls G ls n L) (hc : v.category = 2)
    (h' : lv_has ls' n ((j, am_v G v) :: (am_pairs G L).filter (fun q => !(q.1 == j) && (!(q.1 == j + 1) && !(q.1 + 1 == j && q.2.category == 2))))) : am_ls G ls' n (am_set L j v) := by
  refine ⟨h'.1, h'.2.1, by rw [am_set_len]; exact h.2.2.1, fun i w hw => ?_⟩
  by_cases hi : i = j
  · subst hi
    have hv : w = v := am_set_self hw
    rw [hv]
    exact h'.2.2 _ List.mem_cons_self
  · obtain ⟨h1, h2, h3⟩ := am_set_other hw hi
    refine h'.2.2 (i, am_v G w) (List.mem_cons_of_mem _ (List.mem_filter.mpr ⟨am_pairs_mem.mpr ⟨w, h1, rfl⟩, ?_⟩))
    simp only [Bool.and_eq_true, Bool.not_eq_true', beq_eq_false_iff_ne, ne_eq, Bool.and_eq_false_iff, am_v_cat]
    refine ⟨hi, fun e => h3 ⟨e, hc⟩, ?_⟩
    by_cases e : i + 1 = j
    · exact Or.inr fun e2 => h2 ⟨e, e2⟩
    · exact Or.inl e
end
section
/-! one step of the small machine is one of the machine: instructions that leave the heap alone -/
def am_ctx (M : Nat → am_M) (G : am_G) (p : Program) (s : State) (m : MethodId) (args : Array Value) (meth : Method) (c : Code) (k : Nat) : Prop :=
  p.tables.exec = Jvm.exec ∧ c.code = (M k).2.1 ∧ c.maxLocals = (M k).2.2.1 ∧ s.vm.findClass (M k).1.cls = some m.cls ∧ (∀ w ∈ am_gw, w.before args s = true) ∧ am_env G s ∧ meth.name = (M k).1.name
theorem am_load_inv {q k j : Nat} {L : am_L} {st : List Value} {S : am_S} {r : am_F} (h : am_load q k j L st S = some r) : ∃ v, L[j]? = some (some v) ∧ am_kind v = k ∧ r = (q, L, v :: st, S) := by
  unfold am_load at h
  split at h
  · rename_i v hv
    split at h
    · rename_i hk
      exact ⟨v, hv, hk, (Option.some.inj h).symm⟩
    · cases h
  · cases h
theorem am_store_inv {q k j : Nat} {L : am_L} {st : List Value} {S : am_S} {r : am_F} (h : am_store q k j L st S = some r) : ∃ v st', st = v :: st' ∧ am_kind v = k ∧ j + k % 2 < L.length ∧ r = (q, am_set L j v, st', S) := by
  unfold am_store at h
  split at h
  · rename_i v st'
    split at h
    · rename_i hk
      exact ⟨v, st', rfl, hk.1, hk.2, (Option.some.inj h).symm⟩
    · cases h
  · cases h
theorem am_k0 {v : Value} (h : am_kind v = 0) : ∃ x, v = .int x := by cases v <;> simp [am_kind] at h <;> exact ⟨_, rfl⟩
theorem am_k1 {v : Value} (h : am_kind v = 1) : ∃ x, v = .long x := by cases v <;> simp [am_kind] at h <;> exact ⟨_, rfl⟩
theorem am_k2 {v : Value} (h : am_kind v = 2) : ∃ x, v = .ref x := by cases v <;> simp [am_kind] at h <;> exact ⟨_, rfl⟩
/-- an instruction that may change the heap -/
def am_heapy (op : Instr) : Bool := match op with
  | .iaload | .laload | .baload | .caload | .aaload | .iastore | .lastore | .bastore | .castore | .aastore | .arraylength | .getfield _ | .putfield _ | .getstatic _ | .new _ | .newarray _ | .anewarray _ | .invokespecial _ => true
  | _ => false
theorem am_look_nn {pc : Nat} {dflt : Int} {l : List (Int × Int)} (h0 : 0 ≤ (pc : Int) + dflt) (h : ∀ q ∈ l, 0 ≤ (pc : Int) + q.2) (x : Int) : 0 ≤ (pc : Int) + Op.lookupswitch.offset l dflt x := by
  induction l with
  | nil => exact h0
  | cons a t ih =>
    have h1 := h a List.mem_cons_self
    have h2 := ih (fun q hq => h q (List.mem_cons_of_mem _ hq))
    obtain ⟨a1, a2⟩ := a
    unfold Op.lookupswitch.offset
    first
      | (split <;> first | exact h1 | exact h2 | exact h0)
      | (split
         · first | exact h1 | exact h2 | exact h0
         · split <;> first | exact h1 | exact h2 | exact h0)
section AMP
variable {p : Program} {l : Launch} {e : Env} {R : Room} {s : State} {m : MethodId} {args : Array Value} {below : List Frame} {meth : Method} {c : Code} {H : Heap} {locs : List Loc} {cells slots : Nat} {Q : State → Prop}
variable {M : Nat → am_M} {G : am_G} {k pc : Nat} {ls : Array Slot}
set_option maxHeartbeats 4000000 in
theorem am_step_pure (C : am_ctx M G p s m args meth c k) {i : am_I} {L : am_L} {st : List Value} {S : am_S} {q : am_F}
    (hchk : am_chk M k pc i = true) (hop : am_heapy i.1 = false) (hstep : am_step (am_X G) i pc L st S = some q) (hl : am_ls G ls (M k).2.2.1 L)
    (kk : ∀ ls', am_ls G ls' (M k).2.2.1 q.2.1 → q.2.2.2 = S → W p l e R s m args below meth c H locs cells slots Q (F0 m q.1 ls' (q.2.2.1.map (am_v G)))) :
    W p l e R s m args below meth c H locs cells slots Q (F0 m pc ls (st.map (am_v G))) := by
  obtain ⟨hx, hb, hml, hown, hgw, henv, hnm⟩ := C
  obtain ⟨op, len, a, b, w, cst⟩ := i
  obtain ⟨hd, hln, hc2⟩ := am_chk_sp hchk
  dsimp only at hd hln hc2 hop
  have hpair := am_ls_has hl
  cases op <;> first | (exact absurd (show true = false from hop) (by decide)) | skip
  case iconst n =>
    have hln : len = 1 := by simpa [am_sws, am_len] using hln
    subst hln
    cases hstep
    exact lv_iconst hx hb hd rfl (kk ls hl rfl)
  case bipush n =>
    have hln : len = 2 := by simpa [am_sws, am_len] using hln
    subst hln
    cases hstep
    exact lv_bipush hx hb hd rfl (kk ls hl rfl)
  case sipush n =>
    have hln : len = 3 := by simpa [am_sws, am_len] using hln
    subst hln
    cases hstep
    exact lv_sipush hx hb hd rfl (kk ls hl rfl)
  case lconst n =>
    have hln : len = 1 := by simpa [am_sws, am_len] using hln
    subst hln
    cases hstep
    exact lv_lconst hx hb hd rfl (kk ls hl rfl)
  case ldc x =>
    have hln : len = 2 := by simpa [am_sws, am_len] using hln
    subst hln
    cases hstep
    exact lv_ldc hx hb hown (hgw _ (am_word_gw hc2 rfl)) hd (kk ls hl rfl)
  case ldc2_w x =>
    have hln : len = 3 := by simpa [am_sws, am_len] using hln
    subst hln
    cases hstep
    exact lv_ldc2 hx hb hown (hgw _ (am_word_gw hc2 rfl)) hd (kk ls hl rfl)
  case iload j =>
    have hln : len = 2 := by simpa [am_sws, am_len] using hln
    subst hln
    obtain ⟨v, hv, hk, rfl⟩ := am_load_inv hstep
    obtain ⟨x, rfl⟩ := am_k0 hk
    exact lv_iload hx hb hd (hl.2.2.2 _ _ hv) (kk ls hl rfl)
  case iload_n j =>
    have hln : len = 1 := by simpa [am_sws, am_len] using hln
    subst hln
    obtain ⟨v, hv, hk, rfl⟩ := am_load_inv hstep
    obtain ⟨x, rfl⟩ := am_k0 hk
    exact lv_iload_n hx hb hd rfl (hl.2.2.2 _ _ hv) (kk ls hl rfl)
  case lload j =>
    have hln : len = 2 := by simpa [am_sws, am_len] using hln
    subst hln
    obtain ⟨v, hv, hk, rfl⟩ := am_load_inv hstep
    obtain ⟨x, rfl⟩ := am_k1 hk
    exact lv_lload hx hb hd (hl.2.2.2 _ _ hv) (kk ls hl rfl)
  case lload_n j =>
    have hln : len = 1 := by simpa [am_sws, am_len] using hln
    subst hln
    obtain ⟨v, hv, hk, rfl⟩ := am_load_inv hstep
    obtain ⟨x, rfl⟩ := am_k1 hk
    exact lv_lload_n hx hb hd rfl (hl.2.2.2 _ _ hv) (kk ls hl rfl)
  case aload j =>
    have hln : len = 2 := by simpa [am_sws, am_len] using hln
    subst hln
    obtain ⟨v, hv, hk, rfl⟩ := am_load_inv hstep
    obtain ⟨x, rfl⟩ := am_k2 hk
    exact lv_aload hx hb hd (hl.2.2.2 _ _ hv) (kk ls hl rfl)
  case aload_n j =>
    have hln : len = 1 := by simpa [am_sws, am_len] using hln
    subst hln
    obtain ⟨v, hv, hk, rfl⟩ := am_load_inv hstep
    obtain ⟨x, rfl⟩ := am_k2 hk
    exact lv_aload_n hx hb hd rfl (hl.2.2.2 _ _ hv) (kk ls hl rfl)
  case istore j =>
    have hln : len = 2 := by simpa [am_sws, am_len] using hln
    subst hln
    obtain ⟨v, st', rfl, hk, hj, rfl⟩ := am_store_inv hstep
    obtain ⟨x, rfl⟩ := am_k0 hk
    have hj : j < (M k).2.2.1 := by rw [← hl.2.2.1]; omega
    exact lv_istore hx hb hd hpair hj rfl (fun ls' h' => kk ls' (am_ls_set1 (v := .int x) hl rfl h') rfl)
  case istore_n j =>
    have hln : len = 1 := by simpa [am_sws, am_len] using hln
    subst hln
    obtain ⟨v, st', rfl, hk, hj, rfl⟩ := am_store_inv hstep
    obtain ⟨x, rfl⟩ := am_k0 hk
    have hj : (j : Nat) < (M k).2.2.1 := by rw [← hl.2.2.1]; omega
    exact lv_istore_n hx hb hd rfl hpair hj rfl (fun ls' h' => kk ls' (am_ls_set1 (v := .int x) hl rfl h') rfl)
  case lstore j =>
    have hln : len = 2 := by simpa [am_sws, am_len] using hln
    subst hln
    obtain ⟨v, st', rfl, hk, hj, rfl⟩ := am_store_inv hstep
    obtain ⟨x, rfl⟩ := am_k1 hk
    have hj : j + 1 < (M k).2.2.1 := by rw [← hl.2.2.1]; omega
    exact lv_lstore hx hb hd hpair hj rfl (fun ls' h' => kk ls' (am_ls_set2 (v := .long x) hl rfl h') rfl)
  case lstore_n j =>
    have hln : len = 1 := by simpa [am_sws, am_len] using hln
    subst hln
    obtain ⟨v, st', rfl, hk, hj, rfl⟩ := am_store_inv hstep
    obtain ⟨x, rfl⟩ := am_k1 hk
    have hj : (j : Nat) + 1 < (M k).2.2.1 := by rw [← hl.2.2.1]; omega
    exact lv_lstore_n hx hb hd rfl hpair hj rfl (fun ls' h' => kk ls' (am_ls_set2 (v := .long x) hl rfl h') rfl)
  case astore j =>
    have hln : len = 2 := by simpa [am_sws, am_len] using hln
    subst hln
    obtain ⟨v, st', rfl, hk, hj, rfl⟩ := am_store_inv hstep
    obtain ⟨x, rfl⟩ := am_k2 hk
    have hj : j < (M k).2.2.1 := by rw [← hl.2.2.1]; omega
    exact lv_astore hx hb hd hpair hj rfl (fun ls' h' => kk ls' (am_ls_set1 (v := .ref x) hl rfl h') rfl)
  case astore_n j =>
    have hln : len = 1 := by simpa [am_sws, am_len] using hln
    subst hln
    obtain ⟨v, st', rfl, hk, hj, rfl⟩ := am_store_inv hstep
    obtain ⟨x, rfl⟩ := am_k2 hk
    have hj : (j : Nat) < (M k).2.2.1 := by rw [← hl.2.2.1]; omega
    exact lv_astore_n hx hb hd rfl hpair hj rfl (fun ls' h' => kk ls' (am_ls_set1 (v := .ref x) hl rfl h') rfl)
  case iinc j n =>
    have hln : len = 3 := by simpa [am_sws, am_len] using hln
    subst hln
    simp only [am_step] at hstep
    split at hstep
    · rename_i x hv
      cases hstep
      have hj : j < (M k).2.2.1 := by rw [← hl.2.2.1]; exact (List.getElem?_eq_some_iff.mp hv).1
      obtain ⟨kp, hkp⟩ := List.getElem?_of_mem (am_pairs_mem (G := G) (q := (j, .int x)) |>.mpr ⟨_, hv, rfl⟩)
      exact lv_iinc hx hb hd hpair hkp rfl hj rfl (fun ls' h' => kk ls' (am_ls_set1 (v := .int (x + Int32.ofInt n)) hl rfl h') rfl)
    · cases hstep
  case iadd =>
    have hln : len = 1 := by simpa [am_sws, am_len] using hln
    subst hln
    simp only [am_step] at hstep
    split at hstep
    · rename_i y x r
      simp only [am_ib] at hstep
      cases hstep
      exact lv_iadd hx hb hd (kk ls hl rfl)
    · cases hstep
  case isub =>
    have hln : len = 1 := by simpa [am_sws, am_len] using hln
    subst hln
    simp only [am_step] at hstep
    split at hstep
    · rename_i y x r
      simp only [am_ib] at hstep
      cases hstep
      exact lv_isub hx hb hd (kk ls hl rfl)
    · cases hstep
  case imul =>
    have hln : len = 1 := by simpa [am_sws, am_len] using hln
    subst hln
    simp only [am_step] at hstep
    split at hstep
    · rename_i y x r
      simp only [am_ib] at hstep
      cases hstep
      exact lv_imul hx hb hd (kk ls hl rfl)
    · cases hstep
  case idiv =>
    have hln : len = 1 := by simpa [am_sws, am_len] using hln
    subst hln
    simp only [am_step] at hstep
    split at hstep
    · rename_i y x r
      simp only [am_ib] at hstep
      by_cases hy : y = 0
      · rw [if_pos hy] at hstep; cases hstep
      · rw [if_neg hy] at hstep; cases hstep; exact lv_idiv hx hb hd hy (kk ls hl rfl)
    · cases hstep
  case irem =>
    have hln : len = 1 := by simpa [am_sws, am_len] using hln
    subst hln
    simp only [am_step] at hstep
    split at hstep
    · rename_i y x r
      simp only [am_ib] at hstep
      by_cases hy : y = 0
      · rw [if_pos hy] at hstep; cases hstep
      · rw [if_neg hy] at hstep; cases hstep; exact lv_irem hx hb hd hy (kk ls hl rfl)
    · cases hstep
  case iand =>
    have hln : len = 1 := by simpa [am_sws, am_len] using hln
    subst hln
    simp only [am_step] at hstep
    split at hstep
    · rename_i y x r
      simp only [am_ib] at hstep
      cases hstep
      exact lv_iand hx hb hd (kk ls hl rfl)
    · cases hstep
  case ior =>
    have hln : len = 1 := by simpa [am_sws, am_len] using hln
    subst hln
    simp only [am_step] at hstep
    split at hstep
    · rename_i y x r
      simp only [am_ib] at hstep
      cases hstep
      exact lv_ior hx hb hd (kk ls hl rfl)
    · cases hstep
  case ixor =>
    have hln : len = 1 := by simpa [am_sws, am_len] using hln
    subst hln
    simp only [am_step] at hstep
    split at hstep
    · rename_i y x r
      simp only [am_ib] at hstep
      cases hstep
      exact lv_ixor hx hb hd (kk ls hl rfl)
    · cases hstep
  case ishl =>
    have hln : len = 1 := by simpa [am_sws, am_len] using hln
    subst hln
    simp only [am_step] at hstep
    split at hstep
    · rename_i y x r
      simp only [am_ib] at hstep
      cases hstep
      exact lv_ishl hx hb hd (kk ls hl rfl)
    · cases hstep
  case ishr =>
    have hln : len = 1 := by simpa [am_sws, am_len] using hln
    subst hln
    simp only [am_step] at hstep
    split at hstep
    · rename_i y x r
      simp only [am_ib] at hstep
      cases hstep
      exact lv_ishr hx hb hd (kk ls hl rfl)
    · cases hstep
  case iushr =>
    have hln : len = 1 := by simpa [am_sws, am_len] using hln
    subst hln
    simp only [am_step] at hstep
    split at hstep
    · rename_i y x r
      simp only [am_ib] at hstep
      cases hstep
      exact lv_iushr hx hb hd rfl (kk ls hl rfl)
    · cases hstep
  case ladd =>
    have hln : len = 1 := by simpa [am_sws, am_len] using hln
    subst hln
    simp only [am_step] at hstep
    split at hstep
    · rename_i y x r
      simp only [am_lb] at hstep
      cases hstep
      exact lv_ladd hx hb hd (kk ls hl rfl)
    · cases hstep
  case lsub =>
    have hln : len = 1 := by simpa [am_sws, am_len] using hln
    subst hln
    simp only [am_step] at hstep
    split at hstep
    · rename_i y x r
      simp only [am_lb] at hstep
      cases hstep
      exact lv_lsub hx hb hd (kk ls hl rfl)
    · cases hstep
  case lmul =>
    have hln : len = 1 := by simpa [am_sws, am_len] using hln
    subst hln
    simp only [am_step] at hstep
    split at hstep
    · rename_i y x r
      simp only [am_lb] at hstep
      cases hstep
      exact lv_lmul hx hb hd (kk ls hl rfl)
    · cases hstep
  case ldiv =>
    have hln : len = 1 := by simpa [am_sws, am_len] using hln
    subst hln
    simp only [am_step] at hstep
    split at hstep
    · rename_i y x r
      simp only [am_lb] at hstep
      by_cases hy : y = 0
      · rw [if_pos hy] at hstep; cases hstep
      · rw [if_neg hy] at hstep; cases hstep; exact lv_ldiv hx hb hd hy (kk ls hl rfl)
    · cases hstep
  case lrem =>
    have hln : len = 1 := by simpa [am_sws, am_len] using hln
    subst hln
    simp only [am_step] at hstep
    split at hstep
    · rename_i y x r
      simp only [am_lb] at hstep
      by_cases hy : y = 0
      · rw [if_pos hy] at hstep; cases hstep
      · rw [if_neg hy] at hstep; cases hstep; exact lv_lrem hx hb hd hy (kk ls hl rfl)
    · cases hstep
  case land =>
    have hln : len = 1 := by simpa [am_sws, am_len] using hln
    subst hln
    simp only [am_step] at hstep
    split at hstep
    · rename_i y x r
      simp only [am_lb] at hstep
      cases hstep
      exact lv_land hx hb hd (kk ls hl rfl)
    · cases hstep
  case lor =>
    have hln : len = 1 := by simpa [am_sws, am_len] using hln
    subst hln
    simp only [am_step] at hstep
    split at hstep
    · rename_i y x r
      simp only [am_lb] at hstep
      cases hstep
      exact lv_lor hx hb hd (kk ls hl rfl)
    · cases hstep
  case lxor =>
    have hln : len = 1 := by simpa [am_sws, am_len] using hln
    subst hln
    simp only [am_step] at hstep
    split at hstep
    · rename_i y x r
      simp only [am_lb] at hstep
      cases hstep
      exact lv_lxor hx hb hd (kk ls hl rfl)
    · cases hstep
  case lcmp =>
    have hln : len = 1 := by simpa [am_sws, am_len] using hln
    subst hln
    simp only [am_step] at hstep
    split at hstep
    · rename_i y x r
      simp only [am_lb] at hstep
      cases hstep
      exact W.lcmp hx hb hd (kk ls hl rfl)
    · cases hstep
  case lshl =>
    have hln : len = 1 := by simpa [am_sws, am_len] using hln
    subst hln
    simp only [am_step] at hstep
    split at hstep
    · rename_i y x r
      cases hstep
      exact lv_lshl hx hb hd rfl (kk ls hl rfl)
    · cases hstep
  case ineg =>
    have hln : len = 1 := by simpa [am_sws, am_len] using hln
    subst hln
    simp only [am_step] at hstep
    split at hstep
    · rename_i v r
      cases v with
      | int x =>
        simp only [am_un] at hstep
        cases hstep
        exact lv_ineg hx hb hd (kk ls hl rfl)
      | _ => simp [am_un] at hstep
    · cases hstep
  case lneg =>
    have hln : len = 1 := by simpa [am_sws, am_len] using hln
    subst hln
    simp only [am_step] at hstep
    split at hstep
    · rename_i v r
      cases v with
      | long x =>
        simp only [am_un] at hstep
        cases hstep
        exact lv_lneg hx hb hd (kk ls hl rfl)
      | _ => simp [am_un] at hstep
    · cases hstep
  case i2l =>
    have hln : len = 1 := by simpa [am_sws, am_len] using hln
    subst hln
    simp only [am_step] at hstep
    split at hstep
    · rename_i v r
      cases v with
      | int x =>
        simp only [am_un] at hstep
        cases hstep
        exact lv_i2l hx hb hd rfl (kk ls hl rfl)
      | _ => simp [am_un] at hstep
    · cases hstep
  case l2i =>
    have hln : len = 1 := by simpa [am_sws, am_len] using hln
    subst hln
    simp only [am_step] at hstep
    split at hstep
    · rename_i v r
      cases v with
      | long x =>
        simp only [am_un] at hstep
        cases hstep
        exact lv_l2i hx hb hd rfl (kk ls hl rfl)
      | _ => simp [am_un] at hstep
    · cases hstep
  case i2c =>
    have hln : len = 1 := by simpa [am_sws, am_len] using hln
    subst hln
    simp only [am_step] at hstep
    split at hstep
    · rename_i v r
      cases v with
      | int x =>
        simp only [am_un] at hstep
        cases hstep
        exact lv_i2c hx hb hd rfl (kk ls hl rfl)
      | _ => simp [am_un] at hstep
    · cases hstep
  case i2b =>
    have hln : len = 1 := by simpa [am_sws, am_len] using hln
    subst hln
    simp only [am_step] at hstep
    split at hstep
    · rename_i v r
      cases v with
      | int x =>
        simp only [am_un] at hstep
        cases hstep
        exact lv_i2b hx hb hd rfl (kk ls hl rfl)
      | _ => simp [am_un] at hstep
    · cases hstep
  case i2s =>
    have hln : len = 1 := by simpa [am_sws, am_len] using hln
    subst hln
    simp only [am_step] at hstep
    split at hstep
    · rename_i v r
      cases v with
      | int x =>
        simp only [am_un] at hstep
        cases hstep
        exact lv_i2s hx hb hd rfl (kk ls hl rfl)
      | _ => simp [am_un] at hstep
    · cases hstep
  case dup =>
    have hln : len = 1 := by simpa [am_sws, am_len] using hln
    subst hln
    simp only [am_step] at hstep
    split at hstep
    · rename_i v r
      split at hstep
      · rename_i hv
        cases hstep
        exact lv_dup hx hb hd (by rw [am_v_cat]; exact hv) (kk ls hl rfl)
      · cases hstep
    · cases hstep
  case pop =>
    have hln : len = 1 := by simpa [am_sws, am_len] using hln
    subst hln
    simp only [am_step] at hstep
    split at hstep
    · rename_i v r
      split at hstep
      · rename_i hv
        cases hstep
        exact lv_pop hx hb hd (by rw [am_v_cat]; exact hv) (kk ls hl rfl)
      · cases hstep
    · cases hstep
  case pop2 =>
    have hln : len = 1 := by simpa [am_sws, am_len] using hln
    subst hln
    simp only [am_step] at hstep
    split at hstep
    · rename_i v r
      split at hstep
      · rename_i hv
        cases hstep
        exact lv_pop2_2 hx hb hd (by rw [am_v_cat]; exact hv) (kk ls hl rfl)
      · cases hstep
    · cases hstep
  case dup2 =>
    have hln : len = 1 := by simpa [am_sws, am_len] using hln
    subst hln
    simp only [am_step] at hstep
    split at hstep
    · rename_i v r
      split at hstep
      · rename_i hv
        cases hstep
        exact lv_dup2_2 hx hb hd (by rw [am_v_cat]; exact hv) (kk ls hl rfl)
      · split at hstep
        · rename_i w2 r2
          split at hstep
          · rename_i hvw
            cases hstep
            exact lv_dup2_11 hx hb hd (by rw [am_v_cat]; exact hvw.1) (by rw [am_v_cat]; exact hvw.2) (kk ls hl rfl)
          · cases hstep
        · cases hstep
    · cases hstep
  case goto off =>
    have hln : len = 3 := by simpa [am_sws, am_len] using hln
    subst hln
    have ht : (pc : Int) + off = (a : Int) := of_decide_eq_true hc2
    cases hstep
    exact lv_goto hx hb hd ht (kk ls hl rfl)
  case ifCond o off =>
    have hln : len = 3 := by simpa [am_sws, am_len] using hln
    subst hln
    have ht : (pc : Int) + off = (a : Int) := of_decide_eq_true hc2
    simp only [am_step] at hstep
    split at hstep
    · rename_i x r
      cases hstep
      cases o
      case eq => exact lv_if_eq hx hb hd ht (fun h => by have kk := kk ls hl rfl; simp only [am_c1, h, decide_true, if_true] at kk; simpa [am_c1, h] using kk) (fun h => by have kk := kk ls hl rfl; simpa [am_c1, h] using kk)
      case ne => exact lv_if_ne hx hb hd ht (fun h => by have kk := kk ls hl rfl; simp only [am_c1, h, decide_true, if_true] at kk; simpa [am_c1, h] using kk) (fun h => by have kk := kk ls hl rfl; simpa [am_c1, h] using kk)
      case lt => exact lv_if_lt hx hb hd ht (fun h => by have kk := kk ls hl rfl; simp only [am_c1, h, decide_true, if_true] at kk; simpa [am_c1, h] using kk) (fun h => by have kk := kk ls hl rfl; simpa [am_c1, h] using kk)
      case ge => exact lv_if_ge hx hb hd ht (fun h => by have kk := kk ls hl rfl; simp only [am_c1, h, decide_true, if_true] at kk; simpa [am_c1, h] using kk) (fun h => by have kk := kk ls hl rfl; simpa [am_c1, h] using kk)
      case gt => exact lv_if_gt hx hb hd ht (fun h => by have kk := kk ls hl rfl; simp only [am_c1, h, decide_true, if_true] at kk; simpa [am_c1, h] using kk) (fun h => by have kk := kk ls hl rfl; simpa [am_c1, h] using kk)
      case le => exact lv_if_le hx hb hd ht (fun h => by have kk := kk ls hl rfl; simp only [am_c1, h, decide_true, if_true] at kk; simpa [am_c1, h] using kk) (fun h => by have kk := kk ls hl rfl; simpa [am_c1, h] using kk)
    · cases hstep
  case if_icmp o off =>
    have hln : len = 3 := by simpa [am_sws, am_len] using hln
    subst hln
    have ht : (pc : Int) + off = (a : Int) := of_decide_eq_true hc2
    simp only [am_step] at hstep
    split at hstep
    · rename_i y x r
      cases hstep
      cases o
      case eq => exact lv_icmp_eq hx hb hd ht (fun h => by have kk := kk ls hl rfl; simpa [am_c2, h] using kk) (fun h => by have kk := kk ls hl rfl; simpa [am_c2, h] using kk)
      case ne => exact lv_icmp_ne hx hb hd ht (fun h => by have kk := kk ls hl rfl; simpa [am_c2, h] using kk) (fun h => by have kk := kk ls hl rfl; simpa [am_c2, h] using kk)
      case lt => exact lv_icmp_lt hx hb hd ht (fun h => by have kk := kk ls hl rfl; simpa [am_c2, h] using kk) (fun h => by have kk := kk ls hl rfl; simpa [am_c2, h] using kk)
      case ge => exact lv_icmp_ge hx hb hd ht (fun h => by have kk := kk ls hl rfl; simpa [am_c2, h] using kk) (fun h => by have kk := kk ls hl rfl; simpa [am_c2, h] using kk)
      case gt => exact lv_icmp_gt hx hb hd ht (fun h => by have kk := kk ls hl rfl; simpa [am_c2, h] using kk) (fun h => by have kk := kk ls hl rfl; simpa [am_c2, h] using kk)
      case le => exact lv_icmp_le hx hb hd ht (fun h => by have kk := kk ls hl rfl; simpa [am_c2, h] using kk) (fun h => by have kk := kk ls hl rfl; simpa [am_c2, h] using kk)
    · cases hstep
  case tableswitch dflt lo hi offs =>
    simp only [am_chk2, Bool.and_eq_true, decide_eq_true_eq, List.all_eq_true] at hc2
    obtain ⟨⟨h0, h1⟩, h2⟩ := hc2
    simp only [am_step] at hstep
    split at hstep
    · rename_i x r
      cases hstep
      by_cases hr : x.toInt < lo ∨ hi < x.toInt
      · refine lv_tableOut (tgt := ((pc : Int) + dflt).toNat) hx hb hd hr (Int.toNat_of_nonneg h0).symm ?_
        have kk := kk ls hl rfl
        simpa only [am_sw, if_pos hr] using kk
      · have hi1 : ¬ x.toInt < lo := fun q => hr (Or.inl q)
        have hi2 : ¬ hi < x.toInt := fun q => hr (Or.inr q)
        have hlt : (x.toInt - lo).toNat < offs.size := by omega
        have ho : offs[(x.toInt - lo).toNat]? = some offs[(x.toInt - lo).toNat] := Array.getElem?_eq_getElem hlt
        have hn := h1 _ (Array.getElem_mem_toList hlt)
        refine lv_tableIn (tgt := ((pc : Int) + offs[(x.toInt - lo).toNat]).toNat) hx hb hd hi1 hi2 ho (Int.toNat_of_nonneg hn).symm ?_
        have kk := kk ls hl rfl
        simpa only [am_sw, if_neg hr, ho, Option.getD_some] using kk
    · cases hstep
  case lookupswitch dflt ps =>
    simp only [am_chk2, Bool.and_eq_true, decide_eq_true_eq] at hc2
    obtain ⟨⟨h0, h1⟩, h2⟩ := hc2
    simp only [am_step] at hstep
    split at hstep
    · rename_i x r
      cases hstep
      exact lv_lookup hx hb hd h0 rfl (Int.toNat_of_nonneg (am_look_nn h1 (fun q hq => of_decide_eq_true (List.all_eq_true.mp h2 q hq)) x.toInt)).symm (kk ls hl rfl)
    · cases hstep
  all_goals (exfalso; simp [am_step] at hstep; done)
end AMP
end
section
/-! one step of the small machine is one of the machine: instructions that read or change the heap -/
theorem am_uws0 : ∀ w ∈ u_ws RX0 TX0 9, w ∈ am_gw := by decide +kernel
theorem am_uws1 : ∀ w ∈ u_ws RX1 TX1 10, w ∈ am_gw := by decide +kernel
theorem am_uws2 : ∀ w ∈ u_ws RX2 TX2 12, w ∈ am_gw := by decide +kernel
theorem am_uws3 : ∀ w ∈ u_ws RX3 TX3 7, w ∈ am_gw := by decide +kernel
theorem am_uws4 : ∀ w ∈ u_ws RX4 TX4 7, w ∈ am_gw := by decide +kernel
theorem am_uws5 : ∀ w ∈ u_ws RX5 TX5 8, w ∈ am_gw := by decide +kernel
theorem am_uws6 : ∀ w ∈ u_ws RX6 TX6 2, w ∈ am_gw := by decide +kernel
theorem am_uws7 : ∀ w ∈ u_ws RX7 TX7 7, w ∈ am_gw := by decide +kernel
theorem am_uws8 : ∀ w ∈ u_ws RX8 TX8 7, w ∈ am_gw := by decide +kernel
theorem am_uws9 : ∀ w ∈ u_ws RX9 TX9 10, w ∈ am_gw := by decide +kernel
theorem am_uws10 : ∀ w ∈ u_ws RX10 TX10 58, w ∈ am_gw := by decide +kernel
/-- what the tables and the names say of each class -/
theorem am_cls {ci : Nat} {q : vw_C} (h : vwCl[ci]? = some q) : (∀ w ∈ u_ws q.1 q.2.1 q.2.2, w ∈ am_gw) ∧ (∀ k, k < q.2.2 → parseFieldDescriptor (q.2.1 k).2.2.1 = some (am_fty ci k)) ∧ (∀ a, a < q.2.2 → ∀ b, b < q.2.2 → a ≠ b → (q.2.1 a).2.1 ≠ (q.2.1 b).2.1) ∧ q.2.2 = am_cn ci ∧ ci < 11 := by
  match ci, h with
  | 0, h => cases h; exact ⟨am_uws0, tyX0_ok, nmX0, rfl, by decide⟩
  | 1, h => cases h; exact ⟨am_uws1, tyX1_ok, nmX1, rfl, by decide⟩
  | 2, h => cases h; exact ⟨am_uws2, tyX2_ok, nmX2, rfl, by decide⟩
  | 3, h => cases h; exact ⟨am_uws3, tyX3_ok, nmX3, rfl, by decide⟩
  | 4, h => cases h; exact ⟨am_uws4, tyX4_ok, nmX4, rfl, by decide⟩
  | 5, h => cases h; exact ⟨am_uws5, tyX5_ok, nmX5, rfl, by decide⟩
  | 6, h => cases h; exact ⟨am_uws6, tyX6_ok, nmX6, rfl, by decide⟩
  | 7, h => cases h; exact ⟨am_uws7, tyX7_ok, nmX7, rfl, by decide⟩
  | 8, h => cases h; exact ⟨am_uws8, tyX8_ok, nmX8, rfl, by decide⟩
  | 9, h => cases h; exact ⟨am_uws9, tyX9_ok, nmX9, rfl, by decide⟩
  | 10, h => cases h; exact ⟨am_uws10, tyX10_ok, nmX10, rfl, by decide⟩
  | k + 11, h => simp [vwCl] at h
theorem am_in_vp {j : Int32} {n : Nat} (h : am_in j n = true) : vp_in j n := by
  unfold am_in at h
  have h1 := of_decide_eq_true h
  exact h1
theorem am_get_inv {S : am_S} {o : Nat} {x : am_C} (h : am_get S o = some x) : o < S.1 ∧ S.2.1 o = x := by
  unfold am_get at h
  split at h
  · rename_i hlt
    exact ⟨hlt, Option.some.inj h⟩
  · cases h
theorem am_v_rf (G : am_G) (r : Option Nat) : am_v G (va_rf r) = va_rf (r.map (am_ad G)) := by cases r <;> rfl
theorem am_v_narrow {G : am_G} {ty : FieldType} {v : Value} (h : narrow ty v = v) : narrow ty (am_v G v) = am_v G v := by
  cases v <;> first | exact h | (cases ty <;> rfl)
theorem am_v_fits {G : am_G} {ty : FieldType} {v : Value} (h : fits ty v = true) : fits ty (am_v G v) = true := by
  cases v <;> first | exact h | (cases ty <;> first | rfl | exact h)
theorem am_v_def (G : am_G) (ty : FieldType) : am_v G (defaultValue ty) = defaultValue ty := by cases ty <;> rfl
theorem am_tys_at (G : am_G) {t : Nat} (h : t < 6) : (am_tys G)[t]? = some (G.2.1 t, am_ty t) := by simp [am_tys, h]
theorem am_oi1 : Cond.instanceMethod objectInit ∈ am_gw := by decide +kernel
theorem am_oi2 : Cond.code objectInit ⟨#[0xb1]⟩ 1 none ∈ am_gw := by decide +kernel
theorem am_ini {ci : Nat} {q : vw_C} (h : vwCl[ci]? = some q) : Cond.initialized q.1 ∈ am_gw ∧ Cond.instantiable q.1 q.2.2 ∈ am_gw := by
  match ci, h with
  | 0, h => cases h; exact ⟨by decide +kernel, by decide +kernel⟩
  | 1, h => cases h; exact ⟨by decide +kernel, by decide +kernel⟩
  | 2, h => cases h; exact ⟨by decide +kernel, by decide +kernel⟩
  | 3, h => cases h; exact ⟨by decide +kernel, by decide +kernel⟩
  | 4, h => cases h; exact ⟨by decide +kernel, by decide +kernel⟩
  | 5, h => cases h; exact ⟨by decide +kernel, by decide +kernel⟩
  | 6, h => cases h; exact ⟨by decide +kernel, by decide +kernel⟩
  | 7, h => cases h; exact ⟨by decide +kernel, by decide +kernel⟩
  | 8, h => cases h; exact ⟨by decide +kernel, by decide +kernel⟩
  | 9, h => cases h; exact ⟨by decide +kernel, by decide +kernel⟩
  | 10, h => cases h; exact ⟨by decide +kernel, by decide +kernel⟩
  | k + 11, h => simp [vwCl] at h
theorem am_acls : Cond.arrayClass .int ∈ am_gw ∧ Cond.arrayClass .long ∈ am_gw ∧ Cond.arrayClass .byte ∈ am_gw ∧ Cond.arrayClass .char ∈ am_gw := ⟨by decide +kernel, by decide +kernel, by decide +kernel, by decide +kernel⟩
theorem am_blank_V {ci : Nat} : ∀ j, j < am_cn ci → defaultValue (am_fty ci j) = vp_V (am_blank ci) j := by
  intro j hj
  simp [vp_V, am_blank, hj]
theorem am_blank_v (G : am_G) (ci : Nat) : (am_blank ci).map (am_v G) = am_blank ci := by
  unfold am_blank
  rw [List.map_map]
  exact List.map_congr_left fun k _ => am_v_def G _
/-- the number of a new cell -/
theorem am_fresh {G : am_G} {S : am_S} {q : Nat} {x : va_E} {H1 : Heap} {z : Nat} (hP : va_P G.1 vwCl (am_ws G S ++ [(q, x)]) H1) (hD : va_D (am_A G) (am_ws G S ++ [(q, x)])) (hz : H1.size ≤ z) (h : z ≤ am_b0 G + S.1 + 1) : q = am_b0 G + S.1 := by
  have hq : (am_ws G S ++ [(q, x)])[S.1]? = some (q, x) := by
    rw [List.getElem?_append_right (by rw [am_ws_len]; exact Nat.le_refl _), am_ws_len, Nat.sub_self]
    rfl
  have h1 : q < H1.size := (hP _ _ hq).lt
  have h2 : am_b0 G ≤ q := hD.2 _ _ hq
  have h3 : ¬ q < am_b0 G + S.1 := by
    intro h4
    have h5 : q - am_b0 G < S.1 := by omega
    have h6 := hD.1 (q - am_b0 G) S.1 _ _ (by rw [List.getElem?_append_left (by rw [am_ws_len]; exact h5)]; exact am_ws_at h5) hq (show am_b0 G + (q - am_b0 G) = q by omega)
    omega
  omega
end
section
/-! one step of the small machine is one of the machine: instructions that read or change the heap -/
section AMH
variable {p : Program} {l : Launch} {e : Env} {R : Room} {s : State} {m : MethodId} {args : Array Value} {below : List Frame} {meth : Method} {c : Code} {H : Heap} {locs : List Loc} {cells slots : Nat} {Q : State → Prop}
variable {M : Nat → am_M} {G : am_G} {k pc : Nat} {ls : Array Slot}
theorem am_bysize {g : JFrame} (h : H.size ≤ s.heap.size + cells → W p l e R s m args below meth c H locs cells slots Q g) : W p l e R s m args below meth c H locs cells slots Q g :=
  fun T hT X => h (by rw [← hT]; exact X.heapSize) T hT X
theorem am_eqW {n1 n2 m1 m2 : Nat} {g : JFrame} (h1 : n1 = n2) (h2 : m1 = m2) (h : W p l e R s m args below meth c H locs n1 m1 Q g) : W p l e R s m args below meth c H locs n2 m2 Q g := by subst h1; subst h2; exact h
set_option maxHeartbeats 4000000 in
theorem am_step_getf (C : am_ctx M G p s m args meth c k) {x a b w : Nat} {cst : Int} {L : am_L} {st : List Value} {S : am_S} {q : am_F}
    (hchk : am_chk M k pc (.getfield x, 3, a, b, w, cst) = true) (hstep : am_getf a b (pc + 3) L st S = some q) (hw : am_world G S H) (hS : va_S (am_A G) s.heap H locs)
    (kk : q.2.1 = L → q.2.2.2 = S → W p l e R s m args below meth c H locs cells slots Q (F0 m q.1 ls (q.2.2.1.map (am_v G)))) :
    W p l e R s m args below meth c H locs cells slots Q (F0 m pc ls (st.map (am_v G))) := by
  obtain ⟨hx, hb, hml, hown, hgw, henv, hnm⟩ := C
  obtain ⟨hd, -, hc2⟩ := am_chk_sp hchk
  unfold am_getf at hstep
  split at hstep
  · rename_i o r
    split at hstep
    · rename_i c1 fs hg
      obtain ⟨ho, hcell⟩ := am_get_inv hg
      split at hstep
      · rename_i hca
        subst hca
        split at hstep
        · rename_i v hv
          cases hstep
          simp only [am_chk2] at hc2
          split at hc2
          · rename_i cq hcq
            rw [Bool.and_eq_true] at hc2
            obtain ⟨hw1, hb1⟩ := hc2
            obtain ⟨hu, -, -, -, -⟩ := am_cls hcq
            have he : (am_ws G S)[o]? = some (am_b0 G + o, .inr (c1, fs.map (am_v G))) := by rw [am_ws_at ho, hcell]; rfl
            have had : am_ad G o = am_b0 G + o := am_ad_low (by have := hw.2; omega)
            show W p l e R s m args below meth c H locs cells slots Q (F0 m pc ls (.ref (am_ad G o) :: r.map (am_v G)))
            rw [had]
            exact va_get (D := G.1) (ci := c1) (v := am_v G v) hx hb hgw hu hown henv.1 hw.1 o he hcq b (of_decide_eq_true hb1) (hgw _ (am_word_gw hw1 rfl)) (fun _ h9 => h9) (by rw [List.getElem?_map, hv]; rfl) hd (kk rfl rfl)
          · cases hc2
        · cases hstep
      · cases hstep
    · cases hstep
  · cases hstep
set_option maxHeartbeats 4000000 in
theorem am_step_putf (C : am_ctx M G p s m args meth c k) {x a b w : Nat} {cst : Int} {L : am_L} {st : List Value} {S : am_S} {q : am_F}
    (hchk : am_chk M k pc (.putfield x, 3, a, b, w, cst) = true) (hstep : am_putf a b (pc + 3) L st S = some q) (hw : am_world G S H) (hS : va_S (am_A G) s.heap H locs)
    (kk : ∀ H' locs', q.2.1 = L → am_world G q.2.2.2 H' → va_S (am_A G) s.heap H' locs' → W p l e R s m args below meth c H' locs' cells slots Q (F0 m q.1 ls (q.2.2.1.map (am_v G)))) :
    W p l e R s m args below meth c H locs cells slots Q (F0 m pc ls (st.map (am_v G))) := by
  obtain ⟨hx, hb, hml, hown, hgw, henv, hnm⟩ := C
  obtain ⟨hd, -, hc2⟩ := am_chk_sp hchk
  unfold am_putf at hstep
  split at hstep
  · rename_i v o r
    split at hstep
    · rename_i c1 fs hg
      obtain ⟨ho, hcell⟩ := am_get_inv hg
      split at hstep
      · rename_i hca
        obtain ⟨hca, hlen, hnar, hfit⟩ := hca
        subst hca
        cases hstep
        simp only [am_chk2] at hc2
        split at hc2
        · rename_i cq hcq
          rw [Bool.and_eq_true, Bool.and_eq_true] at hc2
          obtain ⟨⟨hw1, hb1⟩, hf1⟩ := hc2
          obtain ⟨hu, hty, hnms, -, -⟩ := am_cls hcq
          have he : (am_ws G S)[o]? = some (am_b0 G + o, .inr (c1, fs.map (am_v G))) := by rw [am_ws_at ho, hcell]; rfl
          have had : am_ad G o = am_b0 G + o := am_ad_low (by have := hw.2; omega)
          have hset : (am_ws G S).set o (am_b0 G + o, .inr (c1, (fs.map (am_v G)).set b (am_v G v))) = am_ws G (am_upd S o (.inr (c1, fs.set b v))) := by
            rw [← am_ws_upd _ ho]
            simp only [am_e, List.map_set]
          show W p l e R s m args below meth c H locs cells slots Q (F0 m pc ls (am_v G v :: .ref (am_ad G o) :: r.map (am_v G)))
          rw [had]
          cases hfin : (cq.2.1 b).2.2.2 with
          | false =>
            refine va_put (D := G.1) (ci := c1) (v := am_v G v) hx hb hgw hu (am_fty c1) hty hnms hown henv.1 hw.1 (am_ws_D G S) hS o he hcq b (of_decide_eq_true hb1) (hgw _ (am_word_gw hw1 rfl)) (fun _ h9 => h9) hfin (hty b (of_decide_eq_true hb1)) (am_v_narrow hnar) (am_v_fits hfit) (by rw [List.length_map]; exact hlen) hd (fun H1 locs1 hP1 hD1 hS1 => ?_)
            rw [hset] at hP1
            exact kk H1 locs1 rfl ⟨hP1, hw.2⟩ hS1
          | true =>
            rw [hfin] at hf1
            simp only [Bool.not_true, Bool.false_or, Bool.and_eq_true, decide_eq_true_eq] at hf1
            refine va_putF (D := G.1) (ci := c1) (v := am_v G v) hx hb hgw hu (am_fty c1) hty hnms hown henv.1 hw.1 (am_ws_D G S) hS o he hcq b (of_decide_eq_true hb1) (hgw _ (am_word_gw hw1 rfl)) (fun _ h9 => h9) hfin (hnm.trans hf1.1) hf1.2 (hty b (of_decide_eq_true hb1)) (am_v_narrow hnar) (am_v_fits hfit) (by rw [List.length_map]; exact hlen) hd (fun H1 locs1 hP1 hD1 hS1 => ?_)
            rw [hset] at hP1
            exact kk H1 locs1 rfl ⟨hP1, hw.2⟩ hS1
        · cases hc2
      · cases hstep
    · cases hstep
  · cases hstep
/-- what is read of an array -/
theorem am_step_aload (C : am_ctx M G p s m args meth c k) {op : Instr} {t a b w : Nat} {cst : Int} {L : am_L} {st : List Value} {S : am_S} {q : am_F}
    (hop : (op = .iaload ∧ t = 0) ∨ (op = .laload ∧ t = 1) ∨ (op = .baload ∧ t = 2) ∨ (op = .caload ∧ t = 3) ∨ (op = .aaload ∧ t = 4))
    (hchk : am_chk M k pc (op, 1, a, b, w, cst) = true) (hstep : am_aload t (pc + 1) L st S (am_X G) = some q) (hw : am_world G S H) (hS : va_S (am_A G) s.heap H locs)
    (kk : q.2.1 = L → q.2.2.2 = S → W p l e R s m args below meth c H locs cells slots Q (F0 m q.1 ls (q.2.2.1.map (am_v G)))) :
    W p l e R s m args below meth c H locs cells slots Q (F0 m pc ls (st.map (am_v G))) := by
  obtain ⟨hx, hb, hml, hown, hgw, henv, hnm⟩ := C
  obtain ⟨hd, -, -⟩ := am_chk_sp hchk
  dsimp only at hd
  unfold am_aload at hstep
  split at hstep
  · rename_i j o r
    split at hstep
    · rename_i n f hro
      split at hstep
      · rename_i ht
        obtain ⟨rfl, hj⟩ := ht
        cases hstep
        rcases hop with ⟨rfl, -⟩ | ⟨-, h9⟩ | ⟨-, h9⟩ | ⟨-, h9⟩ | ⟨-, h9⟩
        · unfold am_ro at hro
          split at hro
          · rename_i ho
            subst ho
            have e := Option.some.inj hro
            have hX := henv.2.2.2.1
            rw [e] at hX
            exact va_sld hx hb hX.1 (Nat.lt_of_lt_of_le hX.2 henv.2.2.2.2.2.2.2.1) (fun h9 => absurd (show am_b0 G ≤ G.2.2.2.1 from h9) (Nat.not_le.mpr hX.2)) hS (am_in_vp hj) hd (kk rfl rfl)
          · split at hro
            · rename_i ho
              subst ho
              have e := Option.some.inj hro
              have hX := henv.2.2.2.2.1
              cases e
              exact va_ti hx hb hX.2.1 hS (am_in_vp hj) rfl hd (kk rfl rfl)
            · cases hro
        all_goals exact absurd h9 (by decide)
      · cases hstep
    · rename_i hro
      have had : ∀ {x : am_C}, am_get S o = some x → am_ad G o = am_b0 G + o := fun hg => am_ad_low (by have := hw.2; have := (am_get_inv hg).1; omega)
      split at hstep
      · rename_i u n f hg
        obtain ⟨ho, hcell⟩ := am_get_inv hg
        split at hstep
        · rename_i ht
          obtain ⟨rfl, ht1, ht4, hj⟩ := ht
          cases hstep
          have he : (am_ws G S)[o]? = some (am_b0 G + o, .inl (G.2.1 u, n, .inl f)) := by rw [am_ws_at ho, hcell]; rfl
          show W p l e R s m args below meth c H locs cells slots Q (F0 m pc ls (.int j :: .ref (am_ad G o) :: r.map (am_v G)))
          rw [had hg]
          rcases hop with ⟨rfl, rfl⟩ | ⟨-, rfl⟩ | ⟨rfl, rfl⟩ | ⟨rfl, rfl⟩ | ⟨-, rfl⟩
          · exact va_iald hx hb henv.1 hw.1 o 0 he (am_tys_at G (by decide)) (am_in_vp hj) hd (kk rfl rfl)
          · exact absurd rfl ht1
          · exact va_bald hx hb henv.1 hw.1 o 2 he (am_tys_at G (by decide)) (am_in_vp hj) hd (kk rfl rfl)
          · exact va_cald hx hb henv.1 hw.1 o 3 he (am_tys_at G (by decide)) (am_in_vp hj) hd (kk rfl rfl)
          · exact absurd ht4 (by decide)
        · cases hstep
      · rename_i u n f hg
        obtain ⟨ho, hcell⟩ := am_get_inv hg
        split at hstep
        · rename_i ht
          obtain ⟨rfl, rfl, hj⟩ := ht
          cases hstep
          have he : (am_ws G S)[o]? = some (am_b0 G + o, .inl (G.2.1 1, n, .inr (.inl f))) := by rw [am_ws_at ho, hcell]; rfl
          show W p l e R s m args below meth c H locs cells slots Q (F0 m pc ls (.int j :: .ref (am_ad G o) :: r.map (am_v G)))
          rw [had hg]
          rcases hop with ⟨-, h9⟩ | ⟨rfl, -⟩ | ⟨-, h9⟩ | ⟨-, h9⟩ | ⟨-, h9⟩
          · exact absurd h9 (by decide)
          · exact va_lald hx hb henv.1 hw.1 o 1 he (am_tys_at G (by decide)) (am_in_vp hj) hd (kk rfl rfl)
          all_goals exact absurd h9 (by decide)
        · cases hstep
      · rename_i u n f hg
        obtain ⟨ho, hcell⟩ := am_get_inv hg
        split at hstep
        · rename_i ht
          obtain ⟨hu, rfl, hj⟩ := ht
          cases hstep
          have he : (am_ws G S)[o]? = some (am_b0 G + o, .inl (G.2.1 u, n, .inr (.inr (.inr (.inr (fun j => (f j).map (am_ad G))))))) := by rw [am_ws_at ho, hcell]; rfl
          have kk := kk rfl rfl
          simp only [List.map_cons, am_v_rf] at kk
          show W p l e R s m args below meth c H locs cells slots Q (F0 m pc ls (.int j :: .ref (am_ad G o) :: r.map (am_v G)))
          rw [had hg]
          rcases hop with ⟨-, h9⟩ | ⟨-, h9⟩ | ⟨-, h9⟩ | ⟨-, h9⟩ | ⟨rfl, -⟩
          iterate 4 exact absurd h9 (by decide)
          rcases hu with rfl | rfl
          · exact va_aldq (C := RX1) hx hb henv.1 hw.1 o 4 he (am_tys_at G (by decide)) (am_in_vp hj) hd kk
          · exact va_aldq (C := RX7) hx hb henv.1 hw.1 o 5 he (am_tys_at G (by decide)) (am_in_vp hj) hd kk
        · cases hstep
      · cases hstep
  · cases hstep
theorem am_step_alen (C : am_ctx M G p s m args meth c k) {a b w : Nat} {cst : Int} {L : am_L} {st : List Value} {S : am_S} {q : am_F}
    (hchk : am_chk M k pc (.arraylength, 1, a, b, w, cst) = true) (hstep : am_alen (pc + 1) L st S (am_X G) = some q) (hw : am_world G S H) (hS : va_S (am_A G) s.heap H locs)
    (kk : q.2.1 = L → q.2.2.2 = S → W p l e R s m args below meth c H locs cells slots Q (F0 m q.1 ls (q.2.2.1.map (am_v G)))) :
    W p l e R s m args below meth c H locs cells slots Q (F0 m pc ls (st.map (am_v G))) := by
  obtain ⟨hx, hb, hml, hown, hgw, henv, hnm⟩ := C
  obtain ⟨hd, -, -⟩ := am_chk_sp hchk
  dsimp only at hd
  unfold am_alen at hstep
  split at hstep
  · rename_i o r
    split at hstep
    · rename_i n f hro
      cases hstep
      unfold am_ro at hro
      split at hro
      · rename_i ho
        subst ho
        have e := Option.some.inj hro
        have hX := henv.2.2.2.1
        rw [e] at hX
        exact va_slen hx hb hX.1 (Nat.lt_of_lt_of_le hX.2 henv.2.2.2.2.2.2.2.1) (fun h9 => absurd (show am_b0 G ≤ G.2.2.2.1 from h9) (Nat.not_le.mpr hX.2)) hS hd (kk rfl rfl)
      · split at hro
        · rename_i ho
          subst ho
          have e := Option.some.inj hro
          have hX := henv.2.2.2.2.1
          cases e
          exact va_tlen hx hb hX.2.1 hS rfl hd (kk rfl rfl)
        · cases hro
    · rename_i hro
      split at hstep
      · rename_i u n f hg
        obtain ⟨ho, hcell⟩ := am_get_inv hg
        split at hstep
        · rename_i hu
          cases hstep
          have had : am_ad G o = am_b0 G + o := am_ad_low (by have := hw.2; omega)
          have he : (am_ws G S)[o]? = some (am_b0 G + o, .inl (G.2.1 u, am_ra G (n, f))) := by rw [am_ws_at ho, hcell]; rfl
          have hn : (am_ra G (n, f)).1 = n := by
            unfold am_ra
            split
            · rename_i e9; exact (congrArg Prod.fst e9).symm
            · rfl
          show W p l e R s m args below meth c H locs cells slots Q (F0 m pc ls (.ref (am_ad G o) :: r.map (am_v G)))
          rw [had]
          exact va_alen (v := Int32.ofNat n) hx hb henv.1 hw.1 o u he (am_tys_at G hu) (by rw [hn]) hd (kk rfl rfl)
        · cases hstep
      · cases hstep
  · cases hstep
/-- what is stored in an array -/
theorem am_step_astore (C : am_ctx M G p s m args meth c k) {op : Instr} {t a b w : Nat} {cst : Int} {L : am_L} {st : List Value} {S : am_S} {q : am_F}
    (hop : (op = .iastore ∧ t = 0) ∨ (op = .lastore ∧ t = 1) ∨ (op = .bastore ∧ t = 2) ∨ (op = .castore ∧ t = 3) ∨ (op = .aastore ∧ t = 4))
    (hchk : am_chk M k pc (op, 1, a, b, w, cst) = true) (hstep : am_astore t (pc + 1) L st S = some q) (hw : am_world G S H) (hS : va_S (am_A G) s.heap H locs)
    (kk : ∀ H' locs', q.2.1 = L → am_world G q.2.2.2 H' → va_S (am_A G) s.heap H' locs' → W p l e R s m args below meth c H' locs' cells slots Q (F0 m q.1 ls (q.2.2.1.map (am_v G)))) :
    W p l e R s m args below meth c H locs cells slots Q (F0 m pc ls (st.map (am_v G))) := by
  obtain ⟨hx, hb, hml, hown, hgw, henv, hnm⟩ := C
  obtain ⟨hd, -, -⟩ := am_chk_sp hchk
  dsimp only at hd
  unfold am_astore at hstep
  have had : ∀ {o : Nat} {x : am_C}, am_get S o = some x → am_ad G o = am_b0 G + o := fun hg => am_ad_low (by have := hw.2; have := (am_get_inv hg).1; omega)
  split at hstep
  · rename_i x j o r
    split at hstep
    · rename_i u n f hg
      obtain ⟨ho, hcell⟩ := am_get_inv hg
      split at hstep
      · rename_i ht
        obtain ⟨rfl, ht1, ht4, hj⟩ := ht
        cases hstep
        have he : (am_ws G S)[o]? = some (am_b0 G + o, .inl (G.2.1 u, n, .inl f)) := by rw [am_ws_at ho, hcell]; rfl
        show W p l e R s m args below meth c H locs cells slots Q (F0 m pc ls (.int x :: .int j :: .ref (am_ad G o) :: r.map (am_v G)))
        rw [had hg]
        rcases hop with ⟨rfl, rfl⟩ | ⟨-, rfl⟩ | ⟨rfl, rfl⟩ | ⟨rfl, rfl⟩ | ⟨-, rfl⟩
        · refine va_iast hx hb henv.1 hw.1 (am_ws_D G S) hS o 0 he (am_tys_at G (by decide)) (am_in_vp hj) hd (fun H1 locs1 hP1 hD1 hS1 => ?_)
          refine kk H1 locs1 rfl ⟨?_, hw.2⟩ hS1
          rw [← am_ws_upd _ ho]
          exact hP1
        · exact absurd rfl ht1
        · refine va_bast hx hb henv.1 hw.1 (am_ws_D G S) hS o 2 he (am_tys_at G (by decide)) (am_in_vp hj) hd (fun H1 locs1 hP1 hD1 hS1 => ?_)
          refine kk H1 locs1 rfl ⟨?_, hw.2⟩ hS1
          rw [← am_ws_upd _ ho]
          exact hP1
        · refine va_cast hx hb henv.1 hw.1 (am_ws_D G S) hS o 3 he (am_tys_at G (by decide)) (am_in_vp hj) hd (fun H1 locs1 hP1 hD1 hS1 => ?_)
          refine kk H1 locs1 rfl ⟨?_, hw.2⟩ hS1
          rw [← am_ws_upd _ ho]
          exact hP1
        · exact absurd ht4 (by decide)
      · cases hstep
    · cases hstep
  · rename_i x j o r
    split at hstep
    · rename_i u n f hg
      obtain ⟨ho, hcell⟩ := am_get_inv hg
      split at hstep
      · rename_i ht
        obtain ⟨rfl, rfl, hj⟩ := ht
        cases hstep
        have he : (am_ws G S)[o]? = some (am_b0 G + o, .inl (G.2.1 1, n, .inr (.inl f))) := by rw [am_ws_at ho, hcell]; rfl
        show W p l e R s m args below meth c H locs cells slots Q (F0 m pc ls (.long x :: .int j :: .ref (am_ad G o) :: r.map (am_v G)))
        rw [had hg]
        rcases hop with ⟨-, h9⟩ | ⟨rfl, -⟩ | ⟨-, h9⟩ | ⟨-, h9⟩ | ⟨-, h9⟩
        · exact absurd h9 (by decide)
        · refine va_last hx hb henv.1 hw.1 (am_ws_D G S) hS o 1 he (am_tys_at G (by decide)) (am_in_vp hj) hd (fun H1 locs1 hP1 hD1 hS1 => ?_)
          refine kk H1 locs1 rfl ⟨?_, hw.2⟩ hS1
          rw [← am_ws_upd _ ho]
          exact hP1
        all_goals exact absurd h9 (by decide)
      · cases hstep
    · cases hstep
  · rename_i v j o r
    split at hstep
    · rename_i u n f ci fs hg hv
      obtain ⟨ho, hcell⟩ := am_get_inv hg
      obtain ⟨hvo, hvcell⟩ := am_get_inv hv
      split at hstep
      · rename_i ht
        obtain ⟨hu, rfl, hj⟩ := ht
        cases hstep
        have he : (am_ws G S)[o]? = some (am_b0 G + o, .inl (G.2.1 u, n, .inr (.inr (.inr (.inr (fun j => (f j).map (am_ad G))))))) := by rw [am_ws_at ho, hcell]; rfl
        have hev : (am_ws G S)[v]? = some (am_b0 G + v, .inr (ci, fs.map (am_v G))) := by rw [am_ws_at hvo, hvcell]; rfl
        have hup : ∀ i : Nat, (fun j => (va_up f i (some v) j).map (am_ad G)) = va_up (fun j => (f j).map (am_ad G)) i (some (am_b0 G + v)) := by
          intro i
          funext j
          unfold va_up
          split
          · show some (am_ad G v) = _
            rw [had hv]
          · rfl
        show W p l e R s m args below meth c H locs cells slots Q (F0 m pc ls (.ref (am_ad G v) :: .int j :: .ref (am_ad G o) :: r.map (am_v G)))
        rw [had hg, had hv]
        rcases hop with ⟨-, h9⟩ | ⟨-, h9⟩ | ⟨-, h9⟩ | ⟨-, h9⟩ | ⟨rfl, -⟩
        iterate 4 exact absurd h9 (by decide)
        rcases hu with ⟨rfl, rfl⟩ | ⟨rfl, rfl⟩
        · refine va_astq (r := (RX1, TX1, 10)) hx hb henv.1 hw.1 (am_ws_D G S) hS o 4 v 1 he (am_tys_at G (by decide)) hev rfl (am_in_vp hj) hd (fun H1 locs1 hP1 hD1 hS1 => ?_)
          refine kk H1 locs1 rfl ⟨?_, hw.2⟩ hS1
          rw [← am_ws_upd _ ho]
          simp only [am_e, am_ra, hup]
          exact hP1
        · refine va_astq (r := (RX7, TX7, 7)) hx hb henv.1 hw.1 (am_ws_D G S) hS o 5 v 7 he (am_tys_at G (by decide)) hev rfl (am_in_vp hj) hd (fun H1 locs1 hP1 hD1 hS1 => ?_)
          refine kk H1 locs1 rfl ⟨?_, hw.2⟩ hS1
          rw [← am_ws_upd _ ho]
          simp only [am_e, am_ra, hup]
          exact hP1
      · cases hstep
    · cases hstep
  · cases hstep
end AMH
end
section
/-! one step of the small machine is one of the machine: what makes cells; and all steps together -/
theorem am_astore_cs {t q0 : Nat} {L : am_L} {st : List Value} {S : am_S} {q : am_F} (h : am_astore t q0 L st S = some q) : q.2.2.2.2.2 = S.2.2 := by
  unfold am_astore at h
  split at h
  · split at h
    · split at h
      · cases h; rfl
      · cases h
    · cases h
  · split at h
    · split at h
      · cases h; rfl
      · cases h
    · cases h
  · split at h
    · split at h
      · cases h; rfl
      · cases h
    · cases h
  · cases h
theorem am_putf_cs {ci k0 q0 : Nat} {L : am_L} {st : List Value} {S : am_S} {q : am_F} (h : am_putf ci k0 q0 L st S = some q) : q.2.2.2.2.2 = S.2.2 := by
  unfold am_putf at h
  split at h
  · split at h
    · split at h
      · cases h; rfl
      · cases h
    · cases h
  · cases h
section AMN
variable {p : Program} {l : Launch} {e : Env} {R : Room} {s : State} {m : MethodId} {args : Array Value} {below : List Frame} {meth : Method} {c : Code} {H : Heap} {locs : List Loc} {cells slots : Nat} {Q : State → Prop}
variable {M : Nat → am_M} {G : am_G} {k pc : Nat} {ls : Array Slot}
theorem am_step_new (C : am_ctx M G p s m args meth c k) {x a b w : Nat} {cst : Int} {st : List Value} {S : am_S} {c0 s0 : Nat}
    (hchk : am_chk M k pc (.new x, 3, a, b, w, cst) = true) (ha : a < 11) (hn : S.1 < 1000000) (hw : am_world G S H) (hS : va_S (am_A G) s.heap H locs)
    (hc0 : c0 ≤ S.2.2.1) (hs0 : s0 ≤ S.2.2.2) (hRc : S.2.2.1 + 1 ≤ c0 + R.cells) (hRs : S.2.2.2 + am_cn a ≤ s0 + R.slots) (hsz : s.heap.size + (S.2.2.1 - c0) ≤ am_b0 G + S.1)
    (kk : ∀ H', am_world G (am_push S (.inr (a, am_blank a)) (am_cn a)) H' → va_S (am_A G) s.heap H' locs → W p l e R s m args below meth c H' locs (S.2.2.1 + 1 - c0) (S.2.2.2 + am_cn a - s0) Q (F0 m (pc + 3) ls (am_v G (.ref S.1) :: st.map (am_v G)))) :
    W p l e R s m args below meth c H locs (S.2.2.1 - c0) (S.2.2.2 - s0) Q (F0 m pc ls (st.map (am_v G))) := by
  obtain ⟨hx, hb, hml, hown, hgw, henv, hnm⟩ := C
  obtain ⟨hd, -, hc2⟩ := am_chk_sp hchk
  dsimp only at hd
  simp only [am_chk2, if_pos ha] at hc2
  split at hc2
  · rename_i cq hcq
    obtain ⟨hu, hty, -, hcn, -⟩ := am_cls hcq
    obtain ⟨hi1, hi2⟩ := am_ini hcq
    have hA : ∀ z, s.heap.size ≤ z → am_A G z := fun z hz => Nat.le_trans henv.2.2.2.2.2.2.2.1 hz
    refine va_new (ci := a) (fs := am_blank a) hx hb hgw hu (am_fty a) hty hown (hgw _ (am_word_gw hc2 rfl)) (hgw _ hi2) (hgw _ hi1) henv.1 hw.1 (am_ws_D G S) hS hA hcq (by rw [hcn]; exact am_blank_V) (by omega) (by rw [hcn]; omega) hd (fun z H1 hP1 hD1 hS1 => ?_)
    refine am_bysize fun hsize => ?_
    have hz : z = am_b0 G + S.1 := am_fresh hP1 hD1 hsize (by omega)
    subst hz
    have hv : am_v G (.ref S.1) = .ref (am_b0 G + S.1) := by show Value.ref (am_ad G S.1) = _; rw [am_ad_low hn]
    rw [hv] at kk
    refine am_eqW (by omega) (by rw [hcn]; omega) (kk H1 ⟨?_, hn⟩ hS1)
    rw [← am_ws_push]
    simp only [am_e, am_blank_v]
    exact hP1
  · cases hc2
theorem am_step_newa (C : am_ctx M G p s m args meth c k) {op : Instr} {len a b w : Nat} {cst : Int} {st : List Value} {S : am_S} {n : Int32} {c0 s0 : Nat}
    (hop : (∃ t, op = .newarray t ∧ len = 2) ∨ (∃ x, op = .anewarray x ∧ len = 3))
    (hchk : am_chk M k pc (op, len, a, b, w, cst) = true) (hn0 : ¬ n < 0) (h8 : n.toNatClampNeg * 8 ≤ 536870912) (hn : S.1 < 1000000) (hw : am_world G S H) (hS : va_S (am_A G) s.heap H locs)
    (hc0 : c0 ≤ S.2.2.1) (hs0 : s0 ≤ S.2.2.2) (hRc : S.2.2.1 + 1 ≤ c0 + R.cells) (hRs : S.2.2.2 + n.toNatClampNeg ≤ s0 + R.slots) (hsz : s.heap.size + (S.2.2.1 - c0) ≤ am_b0 G + S.1)
    (kk : ∀ H', am_world G (am_push S (.inl (a, am_zero a n.toNatClampNeg)) n.toNatClampNeg) H' → va_S (am_A G) s.heap H' locs → W p l e R s m args below meth c H' locs (S.2.2.1 + 1 - c0) (S.2.2.2 + n.toNatClampNeg - s0) Q (F0 m (pc + len) ls (am_v G (.ref S.1) :: st.map (am_v G)))) :
    W p l e R s m args below meth c H locs (S.2.2.1 - c0) (S.2.2.2 - s0) Q (F0 m pc ls (.int n :: st.map (am_v G))) := by
  obtain ⟨hx, hb, hml, hown, hgw, henv, hnm⟩ := C
  obtain ⟨hd, -, hc2⟩ := am_chk_sp hchk
  dsimp only at hd
  have hA : ∀ z, s.heap.size ≤ z → am_A G z := fun z hz => Nat.le_trans henv.2.2.2.2.2.2.2.1 hz
  have hv : am_v G (.ref S.1) = .ref (am_b0 G + S.1) := by show Value.ref (am_ad G S.1) = _; rw [am_ad_low hn]
  rw [hv] at kk
  have fin : ∀ (z : Nat) (cA : ClassId) (H1 : Heap), cA = G.2.1 a → va_P G.1 vwCl (am_ws G S ++ [(z, .inl (cA, am_ra G (am_zero a n.toNatClampNeg)))]) H1 → va_D (am_A G) (am_ws G S ++ [(z, .inl (cA, am_ra G (am_zero a n.toNatClampNeg)))]) → va_S (am_A G) s.heap H1 locs →
      W p l e R s m args below meth c H1 locs (S.2.2.1 - c0 + 1) (S.2.2.2 - s0 + n.toNatClampNeg) Q (F0 m (pc + len) ls (.ref z :: st.map (am_v G))) := by
    intro z cA H1 hcA hP1 hD1 hS1
    subst hcA
    refine am_bysize fun hsize => ?_
    have hz : z = am_b0 G + S.1 := am_fresh hP1 hD1 hsize (by omega)
    subst hz
    refine am_eqW (by omega) (by omega) (kk H1 ⟨?_, hn⟩ hS1)
    rw [← am_ws_push]
    exact hP1
  have two : ∀ {cA : ClassId} {ty : FieldType}, (∀ C9, ty ≠ .object C9) → am_ty a = ty → a < 6 → va_K G.1 vwCl (am_tys G ++ [(cA, ty)]) s → cA = G.2.1 a := by
    intro cA ty hno hta ha hK
    have h1 := (hK.2 6 (cA, ty) rfl).2
    have h2 := (henv.1.2 a _ (am_tys_at G ha)).2
    rw [hta] at h2
    cases ty with
    | object C9 => exact absurd rfl (hno C9)
    | _ => exact Option.some.inj (h1.symm.trans h2)
  have twoq : ∀ {cA : ClassId} {C9 : String}, am_ty a = .object C9 → a < 6 → va_K G.1 vwCl (am_tys G ++ [(cA, .object C9)]) s → cA = G.2.1 a := by
    intro cA C9 hta ha hK
    have h1 := (hK.2 6 (cA, .object C9) rfl).2
    have h2 := (henv.1.2 a _ (am_tys_at G ha)).2
    rw [hta] at h2
    obtain ⟨-, -, -, -, -, h3⟩ := h1
    obtain ⟨-, -, -, -, -, h4⟩ := h2
    exact Option.some.inj (h3.symm.trans h4)
  rcases hop with ⟨t, rfl, rfl⟩ | ⟨x, rfl, rfl⟩
  · simp only [am_chk2, Bool.and_eq_true, decide_eq_true_eq] at hc2
    obtain ⟨ha, hta⟩ := hc2
    rcases (show a = 0 ∨ a = 1 ∨ a = 2 ∨ a = 3 by omega) with rfl | rfl | rfl | rfl
    · refine va_newa (N' := n.toNatClampNeg) (a0 := am_zero 0 n.toNatClampNeg) hx hb (by rw [hta]; exact hgw _ am_acls.1) hta henv.1 hw.1 (am_ws_D G S) hS hA (fun _ => rfl) hn0 rfl (by show _ * 4 ≤ _; omega) (by omega) (by omega) hd (fun z cA H1 hK1 hP1 hD1 hS1 => fin z cA H1 (two (by intro C9 h9; cases h9) rfl (by decide) hK1) hP1 hD1 hS1)
    · refine va_newa (N' := n.toNatClampNeg) (a0 := am_zero 1 n.toNatClampNeg) hx hb (by rw [hta]; exact hgw _ am_acls.2.1) hta henv.1 hw.1 (am_ws_D G S) hS hA (fun _ => rfl) hn0 rfl (by show _ * 8 ≤ _; omega) (by omega) (by omega) hd (fun z cA H1 hK1 hP1 hD1 hS1 => fin z cA H1 (two (by intro C9 h9; cases h9) rfl (by decide) hK1) hP1 hD1 hS1)
    · refine va_newa (N' := n.toNatClampNeg) (a0 := am_zero 2 n.toNatClampNeg) hx hb (by rw [hta]; exact hgw _ am_acls.2.2.1) hta henv.1 hw.1 (am_ws_D G S) hS hA (fun _ => rfl) hn0 rfl (by show _ * 1 ≤ _; omega) (by omega) (by omega) hd (fun z cA H1 hK1 hP1 hD1 hS1 => fin z cA H1 (two (by intro C9 h9; cases h9) rfl (by decide) hK1) hP1 hD1 hS1)
    · refine va_newa (N' := n.toNatClampNeg) (a0 := am_zero 3 n.toNatClampNeg) hx hb (by rw [hta]; exact hgw _ am_acls.2.2.2) hta henv.1 hw.1 (am_ws_D G S) hS hA (fun _ => rfl) hn0 rfl (by show _ * 2 ≤ _; omega) (by omega) (by omega) hd (fun z cA H1 hK1 hP1 hD1 hS1 => fin z cA H1 (two (by intro C9 h9; cases h9) rfl (by decide) hK1) hP1 hD1 hS1)
  · simp only [am_chk2, Bool.or_eq_true, Bool.and_eq_true, decide_eq_true_eq] at hc2
    rcases hc2 with ⟨rfl, hwd⟩ | ⟨rfl, hwd⟩
    · exact va_newq hx hb hown (hgw _ (am_word_gw hwd rfl)) henv.2.2.2.2.2.2.1.1 henv.1 hw.1 (am_ws_D G S) hS hA hn0 rfl (by omega) (by omega) (by omega) hd (fun z cA H1 hK1 hP1 hD1 hS1 => fin z cA H1 (twoq rfl (by decide) hK1) hP1 hD1 hS1)
    · exact va_newq hx hb hown (hgw _ (am_word_gw hwd rfl)) henv.2.2.2.2.2.2.1.2 henv.1 hw.1 (am_ws_D G S) hS hA hn0 rfl (by omega) (by omega) (by omega) hd (fun z cA H1 hK1 hP1 hD1 hS1 => fin z cA H1 (twoq rfl (by decide) hK1) hP1 hD1 hS1)
set_option maxHeartbeats 4000000 in
/-- EVERY STEP -/
theorem am_step_ok (C : am_ctx M G p s m args meth c k) {i : am_I} {L : am_L} {st : List Value} {S : am_S} {q : am_F} {c0 s0 : Nat}
    (hchk : am_chk M k pc i = true) (hstep : am_step (am_X G) i pc L st S = some q) (hl : am_ls G ls (M k).2.2.1 L) (hw : am_world G S H) (hS : va_S (am_A G) s.heap H locs)
    (hc0 : c0 ≤ S.2.2.1) (hs0 : s0 ≤ S.2.2.2) (hRc : q.2.2.2.2.2.1 ≤ c0 + R.cells) (hRs : q.2.2.2.2.2.2 ≤ s0 + R.slots) (hRf : 1 ≤ R.frames) (hRl : 40 ≤ R.locals)
    (hsz : S.2.2.1 = S.1 → s.heap.size + (S.2.2.1 - c0) ≤ am_b0 G + S.1)
    (kk : ∀ H' locs' ls', am_ls G ls' (M k).2.2.1 q.2.1 → am_world G q.2.2.2 H' → va_S (am_A G) s.heap H' locs' → W p l e R s m args below meth c H' locs' (q.2.2.2.2.2.1 - c0) (q.2.2.2.2.2.2 - s0) Q (F0 m q.1 ls' (q.2.2.1.map (am_v G)))) :
    W p l e R s m args below meth c H locs (S.2.2.1 - c0) (S.2.2.2 - s0) Q (F0 m pc ls (st.map (am_v G))) := by
  cases hop : am_heapy i.1 with
  | false => exact am_step_pure C hchk hop hstep hl (fun ls' hl' e => by have k2 := kk H locs ls' hl'; rw [e] at k2; exact k2 hw hS)
  | true =>
    obtain ⟨op, len, a, b, w, cst⟩ := i
    obtain ⟨hd, hln, hc2⟩ := am_chk_sp hchk
    dsimp only at hd hln hc2 hop
    cases op <;> first | (exact absurd (show false = true from hop) (by decide)) | skip
    case iaload =>
      have hln : len = 1 := by simpa [am_sws, am_len] using hln
      subst hln
      exact am_step_aload C (Or.inl ⟨rfl, rfl⟩) hchk hstep hw hS (fun e1 e2 => by have k2 := kk H locs ls; rw [e1, e2] at k2; exact k2 hl hw hS)
    case laload =>
      have hln : len = 1 := by simpa [am_sws, am_len] using hln
      subst hln
      exact am_step_aload C (Or.inr (Or.inl ⟨rfl, rfl⟩)) hchk hstep hw hS (fun e1 e2 => by have k2 := kk H locs ls; rw [e1, e2] at k2; exact k2 hl hw hS)
    case baload =>
      have hln : len = 1 := by simpa [am_sws, am_len] using hln
      subst hln
      exact am_step_aload C (Or.inr (Or.inr (Or.inl ⟨rfl, rfl⟩))) hchk hstep hw hS (fun e1 e2 => by have k2 := kk H locs ls; rw [e1, e2] at k2; exact k2 hl hw hS)
    case caload =>
      have hln : len = 1 := by simpa [am_sws, am_len] using hln
      subst hln
      exact am_step_aload C (Or.inr (Or.inr (Or.inr (Or.inl ⟨rfl, rfl⟩)))) hchk hstep hw hS (fun e1 e2 => by have k2 := kk H locs ls; rw [e1, e2] at k2; exact k2 hl hw hS)
    case aaload =>
      have hln : len = 1 := by simpa [am_sws, am_len] using hln
      subst hln
      exact am_step_aload C (Or.inr (Or.inr (Or.inr (Or.inr ⟨rfl, rfl⟩)))) hchk hstep hw hS (fun e1 e2 => by have k2 := kk H locs ls; rw [e1, e2] at k2; exact k2 hl hw hS)
    case arraylength =>
      have hln : len = 1 := by simpa [am_sws, am_len] using hln
      subst hln
      exact am_step_alen C hchk hstep hw hS (fun e1 e2 => by have k2 := kk H locs ls; rw [e1, e2] at k2; exact k2 hl hw hS)
    case getfield x =>
      have hln : len = 3 := by simpa [am_sws, am_len] using hln
      subst hln
      exact am_step_getf C hchk hstep hw hS (fun e1 e2 => by have k2 := kk H locs ls; rw [e1, e2] at k2; exact k2 hl hw hS)
    case iastore =>
      have hln : len = 1 := by simpa [am_sws, am_len] using hln
      subst hln
      have hcs : q.2.2.2.2.2 = S.2.2 := am_astore_cs hstep
      rw [hcs] at kk
      exact am_step_astore C (Or.inl ⟨rfl, rfl⟩) hchk hstep hw hS (fun H1 locs1 e1 hw1 hS1 => by have k2 := kk H1 locs1 ls; rw [e1] at k2; exact k2 hl hw1 hS1)
    case lastore =>
      have hln : len = 1 := by simpa [am_sws, am_len] using hln
      subst hln
      have hcs : q.2.2.2.2.2 = S.2.2 := am_astore_cs hstep
      rw [hcs] at kk
      exact am_step_astore C (Or.inr (Or.inl ⟨rfl, rfl⟩)) hchk hstep hw hS (fun H1 locs1 e1 hw1 hS1 => by have k2 := kk H1 locs1 ls; rw [e1] at k2; exact k2 hl hw1 hS1)
    case bastore =>
      have hln : len = 1 := by simpa [am_sws, am_len] using hln
      subst hln
      have hcs : q.2.2.2.2.2 = S.2.2 := am_astore_cs hstep
      rw [hcs] at kk
      exact am_step_astore C (Or.inr (Or.inr (Or.inl ⟨rfl, rfl⟩))) hchk hstep hw hS (fun H1 locs1 e1 hw1 hS1 => by have k2 := kk H1 locs1 ls; rw [e1] at k2; exact k2 hl hw1 hS1)
    case castore =>
      have hln : len = 1 := by simpa [am_sws, am_len] using hln
      subst hln
      have hcs : q.2.2.2.2.2 = S.2.2 := am_astore_cs hstep
      rw [hcs] at kk
      exact am_step_astore C (Or.inr (Or.inr (Or.inr (Or.inl ⟨rfl, rfl⟩)))) hchk hstep hw hS (fun H1 locs1 e1 hw1 hS1 => by have k2 := kk H1 locs1 ls; rw [e1] at k2; exact k2 hl hw1 hS1)
    case aastore =>
      have hln : len = 1 := by simpa [am_sws, am_len] using hln
      subst hln
      have hcs : q.2.2.2.2.2 = S.2.2 := am_astore_cs hstep
      rw [hcs] at kk
      exact am_step_astore C (Or.inr (Or.inr (Or.inr (Or.inr ⟨rfl, rfl⟩)))) hchk hstep hw hS (fun H1 locs1 e1 hw1 hS1 => by have k2 := kk H1 locs1 ls; rw [e1] at k2; exact k2 hl hw1 hS1)
    case putfield x =>
      have hln : len = 3 := by simpa [am_sws, am_len] using hln
      subst hln
      have hcs : q.2.2.2.2.2 = S.2.2 := am_putf_cs hstep
      rw [hcs] at kk
      exact am_step_putf C hchk hstep hw hS (fun H1 locs1 e1 hw1 hS1 => by have k2 := kk H1 locs1 ls; rw [e1] at k2; exact k2 hl hw1 hS1)
    case getstatic x =>
      have hln : len = 3 := by simpa [am_sws, am_len] using hln
      subst hln
      cases hstep
      obtain ⟨hx, hb, hml, hown, hgw, henv, hnm⟩ := C
      have hv : am_v G (.ref 1000001) = .ref G.2.2.2.2.1 := rfl
      have k2 := kk H locs ls hl hw hS
      simp only [List.map_cons, hv] at k2
      exact va_gets hx hb henv.2.2.2.2.1.1 hS hown (hgw _ (am_word_gw hc2 rfl)) (fun _ h9 => h9) hd k2
    case new x =>
      have hln : len = 3 := by simpa [am_sws, am_len] using hln
      subst hln
      simp only [am_step] at hstep
      split at hstep
      · rename_i hcond
        cases hstep
        exact am_step_new C hchk hcond.1 hcond.2.2 hw hS hc0 hs0 hRc hRs (hsz hcond.2.1) (fun H1 hw1 hS1 => kk H1 locs ls hl hw1 hS1)
      · cases hstep
    case newarray t =>
      have hln : len = 2 := by simpa [am_sws, am_len] using hln
      subst hln
      simp only [am_step, am_newa] at hstep
      split at hstep
      · rename_i n r
        split at hstep
        · rename_i hcond
          cases hstep
          exact am_step_newa C (Or.inl ⟨t, rfl, rfl⟩) hchk hcond.1 hcond.2.1 hcond.2.2.2.1 hw hS hc0 hs0 hRc hRs (hsz hcond.2.2.1) (fun H1 hw1 hS1 => kk H1 locs ls hl hw1 hS1)
        · cases hstep
      · cases hstep
    case anewarray x =>
      have hln : len = 3 := by simpa [am_sws, am_len] using hln
      subst hln
      simp only [am_step, am_newa] at hstep
      split at hstep
      · rename_i n r
        split at hstep
        · rename_i hcond
          cases hstep
          exact am_step_newa C (Or.inr ⟨x, rfl, rfl⟩) hchk hcond.1 hcond.2.1 hcond.2.2.2.1 hw hS hc0 hs0 hRc hRs (hsz hcond.2.2.1) (fun H1 hw1 hS1 => kk H1 locs ls hl hw1 hS1)
        · cases hstep
      · cases hstep
    case invokespecial x =>
      have hln : len = 3 := by simpa [am_sws, am_len] using hln
      subst hln
      simp only [am_step] at hstep
      split at hstep
      · rename_i ha
        subst ha
        split at hstep
        · rename_i o r
          split at hstep
          · rename_i hr8
            cases hstep
            obtain ⟨hx, hb, hml, hown, hgw, henv, hnm⟩ := C
            simp only [am_chk2, if_true] at hc2
            refine W.objInit hx hb hown (hgw _ (am_word_gw hc2 rfl)) (hgw _ am_oi1) (hgw _ am_oi2) rfl (by rw [hml]; exact hl.1) rfl hd hRf ?_ (kk H locs ls hl hw hS)
            show 2 * 0 + ((r.map (am_v G)).map fun v => v.category).sum + 12 ≤ R.locals
            rw [am_v_cats]
            omega
          · cases hstep
        · cases hstep
      · cases hstep
end AMN
end
section
/-! a thrown object comes to its handler: the rows of the table one after the other, each naming a class that may still have to be looked up -/
section AMT
variable {e : Env} {f : JFrame} {a : Addr} {cell : Cell}
/-- one row that covers the place: it takes the object or it does not; the tables know its class then -/
theorem am_ct1 {s : State} {x : ExceptionTableEntry} {t : List ExceptionTableEntry} {c : ClassId} (hx : covers x f.pc = true) (h0 : x.catchType ≠ 0) (hl : s.vm.ClassLinks e.platform f.method.cls x.catchType c)
    (hcell : s.heap[a]? = some cell) (hobj : ∀ k, cell.vm ≠ .statics k) (hk : ∃ k, s.vm.classes[cell.cls]? = some k) (hc : ∃ k, s.vm.classes[c]? = some k)
    (Q : Handler → Pre) (E : CtlPost) (d : Bool) (acts : List Action) :
    wp (findHandler.go f a (x :: t)) Q E e d acts s ↔ (if s.vm.assignable cell.cls c = true then Q (.found x.handlerPc) d acts (s.setVm (s.vm.noted f.method.cls x.catchType (.cls c))) else wp (findHandler.go f a t) Q E e d acts (s.setVm (s.vm.noted f.method.cls x.catchType (.cls c)))) := by
  simp only [covers] at hx
  obtain ⟨ha, ht⟩ := (resolveClass_links e.toSetting hl).op (op := VmOp.resolveClass f.method.cls x.catchType) rfl
  have hal : s.vm.Alike (s.vm.noted f.method.cls x.catchType (.cls c)) := (Vm.Alike.refl s.vm).noted _ _ _
  obtain ⟨k1, hk1⟩ := hk
  obtain ⟨k2, hk2⟩ := hc
  obtain ⟨k1', hk1', -⟩ := hal.2.2 _ _ hk1
  obtain ⟨k2', hk2', -⟩ := hal.2.2 _ _ hk2
  have hsame := hal.assignable cell.cls c
  cases hf : s.vm.assignable cell.cls c with
  | true =>
    rw [hf] at hsame
    simp [findHandler.go, hx, h0, ha, ht, hcell, hobj, hk1', hk2', hsame, VmOp.dirties, VmOp.acts]
  | false =>
    rw [hf] at hsame
    simp [findHandler.go, hx, h0, ha, ht, hcell, hobj, hk1', hk2', hsame, VmOp.dirties, VmOp.acts]
/-- a row of the table: not over the place, or over it and naming c -/
def am_row (pl : Platform) (s : State) (d : ClassId) (pc : Nat) (thrown : ClassId) (y : ExceptionTableEntry) (takes : Bool) : Prop :=
  (takes = false ∧ covers y pc = false) ∨ (covers y pc = true ∧ y.catchType ≠ 0 ∧ ∃ c, s.vm.ClassLinks pl d y.catchType c ∧ s.vm.assignable thrown c = takes)
theorem am_ct {s : State} (hobj : ∀ k, cell.vm ≠ .statics k) (hk0 : ∃ k, s.vm.classes[cell.cls]? = some k) (x : ExceptionTableEntry) (rest : List ExceptionTableEntry) (hend : am_row e.platform s f.method.cls f.pc cell.cls x true) :
    ∀ (pre : List ExceptionTableEntry) (S : State), s.WarmedH S.vm → S.heap[a]? = some cell → (∀ y ∈ pre, am_row e.platform s f.method.cls f.pc cell.cls y false) →
      ∃ vm', s.WarmedH vm' ∧ ∀ (Q : Handler → Pre) (E : CtlPost) (d : Bool) (acts : List Action), wp (findHandler.go f a (pre ++ x :: rest)) Q E e d acts S ↔ Q (.found x.handlerPc) d acts (S.setVm vm') := by
  obtain ⟨k0, hk0⟩ := hk0
  have one : ∀ (y : ExceptionTableEntry) (t : List ExceptionTableEntry) (b : Bool) (S : State), s.WarmedH S.vm → S.heap[a]? = some cell → covers y f.pc = true → am_row e.platform s f.method.cls f.pc cell.cls y b →
      ∃ vm', s.WarmedH vm' ∧ ∀ (Q : Handler → Pre) (E : CtlPost) (d : Bool) (acts : List Action), wp (findHandler.go f a (y :: t)) Q E e d acts S ↔ (if b = true then Q (.found y.handlerPc) d acts (S.setVm vm') else wp (findHandler.go f a t) Q E e d acts (S.setVm vm')) := by
    intro y t b S hW hcell hcov hr
    rcases hr with ⟨-, h⟩ | ⟨-, h0, c, hl, hfit⟩
    · rw [h] at hcov; cases hcov
    · obtain ⟨k0', hk0', -⟩ := hW.alike.2.2 _ _ hk0
      obtain ⟨dk, _, _, kt, hd, _, _, _, _, hkt, _, hopen⟩ := hl.here
      obtain ⟨kt', hkt', -⟩ := hW.alike.2.2 _ _ hkt
      refine ⟨_, hW.noted hd hopen (State.rightAt_cls hl), fun Q E d acts => ?_⟩
      rw [am_ct1 hcov h0 (hW.classLinks hl) hcell hobj ⟨k0', hk0'⟩ ⟨kt', hkt'⟩, hW.alike.assignable, hfit]
  intro pre
  induction pre with
  | nil =>
    intro S hW hcell _
    have hcov : covers x f.pc = true := by
      rcases hend with ⟨h, -⟩ | ⟨h, -⟩
      · cases h
      · exact h
    obtain ⟨vm', hW', hq⟩ := one x rest true S hW hcell hcov hend
    exact ⟨vm', hW', fun Q E d acts => by rw [List.nil_append, hq]; simp⟩
  | cons y ys ih =>
    intro S hW hcell hpass
    have hy := hpass y List.mem_cons_self
    have hys : ∀ z ∈ ys, am_row e.platform s f.method.cls f.pc cell.cls z false := fun z hz => hpass z (List.mem_cons_of_mem _ hz)
    cases hcov : covers y f.pc with
    | true =>
      obtain ⟨vm1, hW1, hq1⟩ := one y (ys ++ x :: rest) false S hW hcell hcov hy
      obtain ⟨vm2, hW2, hq2⟩ := ih (S.setVm vm1) hW1 hcell hys
      exact ⟨vm2, hW2, fun Q E d acts => by
        rw [List.cons_append, hq1, if_neg (by decide), hq2]
        rfl⟩
    | false =>
      obtain ⟨vm2, hW2, hq2⟩ := ih S hW hcell hys
      exact ⟨vm2, hW2, fun Q E d acts => by rw [List.cons_append, W.findHandler_go_skip hcov]; exact hq2 Q E d acts⟩
end AMT
section AMU
variable {p : Program} {l : Launch} {e : Env} {R : Room} {s : State} {m : MethodId} {args : Array Value} {below : List Frame} {meth : Method} {c : Code} {H : Heap} {locs : List Loc} {cells slots : Nat} {Q : State → Prop} {pc : Nat} {ls : Array Slot} {rest : List Value}
theorem am_caught {T : State} (X : Stand p l e R s m args below meth c T locs cells slots) {a : Addr} {g : JFrame} (hg : g.method = m) {cell : Cell} (hcell : T.heap[a]? = some cell) (hobj : ∀ k, cell.vm ≠ .statics k) (hk0 : ∃ k, s.vm.classes[cell.cls]? = some k)
    (pre : List ExceptionTableEntry) (x : ExceptionTableEntry) (suf : List ExceptionTableEntry) (hsplit : c.exceptionTable.toList = pre ++ x :: suf)
    (hpass : ∀ y ∈ pre, am_row e.platform s m.cls g.pc cell.cls y false) (hend : am_row e.platform s m.cls g.pc cell.cls x true) :
    ∃ vm', Stand p l e R s m args below meth c (T.setVm vm') locs cells slots ∧ ∀ target, Steps p.tables e below ((T.setVm vm').setTop { g with pc := x.handlerPc, stack := [.ref a] }) target → Steps p.tables e below ((T.setTop g).pushFrame (.throwing a)) target := by
  subst hg
  have hA := X.here
  obtain ⟨vm', hW', hq⟩ := am_ct (e := e) (f := g) (a := a) (cell := cell) hobj hk0 x suf hend pre ((T.setTop g).pushFrame (.throwing a)) X.warmed hcell hpass
  refine ⟨vm', X.noted hW', fun target hrest => ?_⟩
  have hm : ((T.setTop g).pushFrame (.throwing a)).vm.method? g.method = some meth := X.method'
  have hfind : ∀ (Q : Handler → Pre) (E : CtlPost) (d : Bool) (acts : List Action), wp (findHandler g a) Q E e d acts ((T.setTop g).pushFrame (.throwing a)) ↔ Q (.found x.handlerPc) d acts (((T.setTop g).pushFrame (.throwing a)).setVm vm') := by
    intro Q E d acts
    rw [W.findHandler_eq hm X.code, hsplit]
    exact hq Q E d acts
  obtain ⟨hgo, hw⟩ := hA.throwing a
  refine Steps.head hgo hw ?_
  have hstep : (stepThrowing e ((T.setTop g).pushFrame (.throwing a)) a (.java g :: T.frames.tail)).Is ((((T.setTop g).pushFrame (.throwing a)).setVm vm').setFrames (.java { g with pc := x.handlerPc, stack := [.ref a] } :: T.frames.tail)) [] := by
    simp only [stepThrowing, searchFrame, vmDo]
    generalize hr : Sem.go _ e false [] ((T.setTop g).pushFrame (.throwing a)) = res
    obtain ⟨as, rfl, ha⟩ := Sem.eq_ok_of hr (a := Handler.found x.handlerPc) (s' := ((T.setTop g).pushFrame (.throwing a)).setVm vm') (acts' := []) (by simp [hfind _ _ _ _])
    exact ⟨rfl, ha⟩
  rw [stepThread_throwing (frames_entered hA.top _), hstep.1]
  obtain ⟨g₀, hg0⟩ := Option.isSome_iff_exists.mp hA.top
  obtain ⟨r, hr⟩ := State.topJava?_eq_some.mp hg0
  have hr' : (T.setVm vm').frames = .java g₀ :: r := hr
  have e9 : (((T.setTop g).pushFrame (.throwing a)).setVm vm').setFrames (.java { g with pc := x.handlerPc, stack := [.ref a] } :: T.frames.tail) = (T.setVm vm').setTop { g with pc := x.handlerPc, stack := [.ref a] } := by
    rw [State.setTop_of_frames _ hr', hr, List.tail_cons, State.pushFrame, State.setTop_of_frames _ hr]
    have h1 : ∀ (u : State) (F K : List Frame), ((u.setFrames F).setVm vm').setFrames K = (u.setVm vm').setFrames K := by
      intro u F K
      show ((u.setVm vm').setFrames F).setFrames K = _
      rw [State.setFrames_setFrames]
    rw [h1, h1]
  rw [e9]
  exact hrest
end AMU
end
section
/-! contracts out of the small machine, and calls -/
/-- the environment stays as the tables warm and the heap grows -/
theorem am_nw_move {s U : State} (hW : s.WarmedH U.vm) {w : Cond} (hw : w ∈ am_nw) (h : va_Nw w s) : va_Nw w U := by
  have hk : am_nwK w = true := (List.mem_filter.mp hw).2
  cases w <;> first | (exact absurd (show false = true from hk) (by decide)) | skip
  · exact va_Nw.warmM hW h
  · exact va_Nw.warmD hW h
  · exact va_Nw.warmC hW h
theorem am_env_move {G : am_G} {s U : State} (h : am_env G s) (hW : s.WarmedH U.vm) (hq : ∀ q : Nat, q < s.heap.size → ¬ am_A G q → U.heap[q]? = s.heap[q]?) (hz : s.heap.size ≤ U.heap.size) : am_env G U := by
  obtain ⟨hK, hU, hN, ⟨hX, hXb⟩, ⟨hZ, hZX, hZb⟩, hnw, ⟨hO1, hO7⟩, hb, hnc⟩ := h
  have hal := hW.alike
  have low : ∀ b : Nat, b < am_b0 G → U.heap[b]? = s.heap[b]? := fun b hlt => hq b (Nat.lt_of_lt_of_le hlt hb) (fun h9 => absurd (show am_b0 G ≤ b from h9) (Nat.not_le.mpr hlt))
  exact ⟨va_K.moved hal hK, vx_Zq.moved hal (hU.kept hq), vx_Zq.moved hal (hN.kept hq), ⟨va_X.moved hal (hX.kept (low _ hXb)), hXb⟩, ⟨va_Z.moved hal (hZ.kept hq), va_T.moved hal (hZX.kept hq), hZb⟩,
    fun w hw => am_nw_move hW hw (hnw w hw), ⟨va_AO.moved hal hO1, va_AO.moved hal hO7⟩, Nat.le_trans hb hz, fun a b ha hb9 hab => va_Nc.moved hal (hnc a b ha hb9 hab)⟩
def am_Pc (G : am_G) (as : List Value) (S : am_S) : Array Value → State → Prop := va_Pc (as.map (am_v G)) (fun U => am_world G S U.heap ∧ am_env G U ∧ (S.2.2.1 = S.1 → U.heap.size ≤ am_b0 G + S.1) ∧ S.1 ≤ S.2.2.1)
def am_Qc (G : am_G) (r : am_R) : Array Value → State → Outcome → State → Prop := fun _ st o t => (∃ v : Option Value, r.1 = .inl v ∧ o = .returned (v.map (am_v G)) ∧ am_world G r.2 t.heap) ∧ va_F (am_A G) st t
def am_XC (G : am_G) (r : am_R) : String → State → State → Prop := fun E st t => r.1 = .inr E ∧ am_world G r.2 t.heap ∧ va_F (am_A G) st t
theorem am_blind (G : am_G) (as : List Value) (S : am_S) : FrameBlind (am_Pc G as S) := by
  intro a U g mk h
  obtain ⟨h1, h2, h3, h4, h5⟩ := h
  exact ⟨h1, h2, am_env_move h3 (State.WarmedH.refl U) (fun _ _ _ => rfl) (Nat.le_refl _), h4, h5⟩
def am_wsM (M : Nat → am_M) (k : Nat) : List Cond := am_cw M k :: am_gw
def am_room (d : Nat) (S : am_S) (r : am_R) : Room := { frames := 16 + d, cells := r.2.2.2.1 - S.2.2.1, slots := r.2.2.2.2 - S.2.2.2, locals := 400 + 60 * d }
section AMC
variable {p : Program} {l : Launch} {e : Env} {R : Room} {s : State} {m : MethodId} {args : Array Value} {below : List Frame} {meth : Method} {c : Code} {H : Heap} {locs : List Loc} {cells slots mc ms : Nat} {Q : State → Prop}
variable {M : Nat → am_M} {kd : Nat → Nat} {G : am_G} {k pc : Nat} {ls : Array Slot} {g : JFrame} {rest : List Value}
theorem am_gw_at {U : State} {a' : Array Value} (hgw : ∀ w ∈ am_gw, w.before args s = true) (hW : s.WarmedH U.vm) {w : Cond} (hw : w ∈ am_gw) : w.before a' U = true :=
  word_at hW (good_of_word (List.mem_filter.mp hw).2) (hgw w hw)
theorem am_back {Pc : Array Value → State → Prop} {Qc : Array Value → State → Outcome → State → Prop} {XC : String → State → State → Prop} {free : Addr → Prop} {rm : Room} (hgw : ∀ w ∈ am_gw, w.before args s = true) (hm : am_mok M kd k)
    (hM : vx_Met l (M k).1 (am_wsM M k) rm Pc Qc XC mc ms free) (hbl : FrameBlind Pc) (hrc : rm.cells = mc) (hrs : rm.slots = ms) (hfr : rm.frames + 1 ≤ R.frames) (hlo : 8 + ((M k).2.2.1 + 11) + rm.locals ≤ R.locals) :
    vx_Back l R p e below s args (M k).1 3 8 (PreOf R mc ms Pc) (PostOf Qc mc ms free) (vx_Post XC mc ms free) := by
  have hws : ∀ w ∈ am_wsM M k, ∀ a' U, s.WarmedH U.vm → w.before a' U = true := by
    intro w hw a' U hW
    rcases List.mem_cons.mp hw with rfl | hw
    · exact am_gw_at hgw hW hm.1
    · exact am_gw_at hgw hW hw
  have hini : ∀ a' U, s.WarmedH U.vm → (Cond.initialized (M k).1.cls).before a' U = true := fun a' U hW => am_gw_at hgw hW hm.2.1
  by_cases hh : (M k).2.2.2.2 = []
  · exact vx_back (bytes := (M k).2.1) (maxL := (M k).2.2.1) (ret := (M k).2.2.2.1) hM hbl hrc hrs hfr hlo hws (by unfold am_wsM am_cw; rw [if_pos hh]; exact List.mem_cons_self) hini
  · exact vx_backW (hh := am_hh M k) (bytes := (M k).2.1) (maxL := (M k).2.2.1) (ret := (M k).2.2.2.1) hM hbl hrc hrs hfr hlo hws (by unfold am_wsM am_cw; rw [if_neg hh]; exact List.mem_cons_self) hini
/-- from a call's own step to what the callee gives -/
theorem am_run_of {y : MethodName} {ig : Instr} {a : Array Value} {Pc : Array Value → State → Prop} {Qc : Array Value → State → Outcome → State → Prop} {XC : String → State → State → Prop} {free : Addr → Prop}
    (hK : vx_Back l R p e below s args y 3 8 (PreOf R mc ms Pc) (PostOf Qc mc ms free) (vx_Post XC mc ms free))
    (hinv : ∀ T : State, T.heap = H → Stand p l e R s m args below meth c T locs cells slots → ∃ (vm₁ : Vm) (mk : MethodId), Stand p l e R s m args below meth c (T.setVm vm₁) locs cells slots ∧ (T.setVm vm₁).methodNamed? y = some mk ∧
      ∀ target, (∀ acts, Steps p.tables e below (doInvoke e ((T.setVm vm₁).setTop { g with stack := rest }) acts mk a).1 target) → Steps p.tables e below (T.setTop g) target)
    (hpre : ∀ U : State, U.heap = H → s.WarmedH U.vm → Pc a U) (hg : g.method = m) (hsize : g.locals.size = c.maxLocals) (hW8 : 2 * g.monitorRoom + (rest.map fun v => v.category).sum ≤ 8) (hdg : decode c.code g.pc = .ok (ig, 3)) (hf : cells + mc ≤ R.cells ∧ slots + ms ≤ R.slots) :
    vx_Run p l e R s m args below meth c H locs cells slots mc ms g rest (Qc a) XC free := by
  intro T hT X
  obtain ⟨vm₁, mk, X₁, hnamed, hstep⟩ := hinv T hT X
  have hW₁ : s.WarmedH vm₁ := X₁.warmed
  rcases hK m meth c ⟨T.setVm vm₁, locs, cells, slots⟩ { g with stack := rest } ig mk a X₁ hg hsize hdg hW8 hnamed ⟨hf.1, hf.2, hpre (T.setVm vm₁) hT hW₁⟩ with ⟨v, ⟨U', l2, c2, s2⟩, X', ⟨g', mk', t, L, e1, e2, hq, h1, hL, h2, h3⟩, hs⟩ | ⟨q, ⟨U', l2, c2, s2⟩, X', ⟨g', mk', t, L, E, ce, e1, e2, hq, hce, hcv, hcl, h1, hL, h2, h3⟩, hs⟩
  · dsimp only [Pt.U, Pt.locs, Pt.cells, Pt.slots] at X' e1 e2 h1 h2 h3 hs
    subst h1; subst h2; subst h3
    exact Or.inl ⟨v, (T.setVm vm₁).calling g' mk' a, t, U', L, hT, X', hL, e1, e2, hq, fun target h => hstep target fun acts => by rw [doInvoke_state]; exact hs.trans h⟩
  · dsimp only [Pt.U, Pt.locs, Pt.cells, Pt.slots] at X' e1 e2 h1 h2 h3 hs hcl
    subst h1; subst h2; subst h3
    exact Or.inr ⟨q, (T.setVm vm₁).calling g' mk' a, t, U', L, E, ce, hT, X', hL, e1, e2, hq, hce, hcv, vx_cls hW₁ hcl, hstep _ fun acts => by rw [doInvoke_state]; exact hs⟩
/-- .. and on from there -/
theorem am_after {r1 : am_R} {a : Array Value} (hr : vx_Run p l e R s m args below meth c H locs cells slots mc ms g rest (am_Qc G r1 a) (am_XC G r1) (am_A G)) (hS : va_S (am_A G) s.heap H locs)
    (kret : ∀ (v : Option Value) (H1 : Heap) (locs1 : List Loc), r1.1 = .inl v → am_world G r1.2 H1 → va_S (am_A G) s.heap H1 locs1 → W p l e R s m args below meth c H1 locs1 (cells + mc) (slots + ms) Q { g with pc := g.pc + 3, stack := (v.map (am_v G)).toList ++ rest })
    (kthr : ∀ (E : String) (ce : Cell) (q9 : Addr) (H1 : Heap) (locs1 : List Loc), r1.1 = .inr E → am_world G r1.2 H1 → va_S (am_A G) s.heap H1 locs1 → H1[q9]? = some ce → ce.vm = .none → s.vm.findClass E = some ce.cls → vx_W p l e R s m args below meth c H1 locs1 (cells + mc) (slots + ms) Q { g with stack := rest } q9) :
    W p l e R s m args below meth c H locs cells slots Q g := by
  intro T hT X
  rcases hr T hT X with ⟨v, st₀, t, T', L, h0, X', hL, e1, e2, ⟨⟨w, hw, hv, hwd⟩, hF⟩, st⟩ | ⟨q, st₀, t, T', L, E, ce, h0, X', hL, e1, e2, ⟨hE, hwd, hF⟩, hce, hcv, hcl, st⟩
  · cases hv
    obtain ⟨k1, k2, k3⟩ := vx_keep h0 e1 hS (fun _ _ h => h) (fun _ h => h) hL hF
    obtain ⟨t2, a1, b1⟩ := kret w T'.heap (locs ++ L) hw (by rw [e1]; exact hwd) k3 T' rfl X'
    exact ⟨t2, st t2 a1, b1⟩
  · obtain ⟨k1, k2, k3⟩ := vx_keep h0 e1 hS (fun _ _ h => h) (fun _ h => h) hL hF
    obtain ⟨t2, a1, b1⟩ := kthr E ce q T'.heap (locs ++ L) hE (by rw [e1]; exact hwd) k3 (by rw [e1]; exact hce) hcv hcl T' rfl X'
    exact ⟨t2, st.trans a1, b1⟩
end AMC
end
section
/-! the five ways of a call, up to the callee's entry -/
/-- the kind of a callee fits the call -/
def am_kchk (kd : Nat → Nat) (i : am_I) : Prop := (∀ x, i.1 = .invokevirtual x → kd i.2.2.1 = 0) ∧ (∀ x, i.1 = .invokestatic x → kd i.2.2.1 = 1) ∧ (∀ x, i.1 = .invokespecial x → i.2.2.1 ≠ 99999 → kd i.2.2.1 = 2)
theorem am_args_inv {i : am_I} {st as rest : List Value} (h : am_args i st = some (as, rest)) : st = as.reverse ++ rest ∧ as.length = i.2.2.2.1 ∧ (rest.map fun v => v.category).sum ≤ 8 := by
  obtain ⟨op, len, a, b, w, cst⟩ := i
  unfold am_args at h
  dsimp only at h
  split at h
  · rename_i hc
    cases h
    refine ⟨by rw [List.reverse_reverse, List.take_append_drop], ?_, hc.2⟩
    rw [List.length_reverse, List.length_take]
    exact Nat.min_eq_left hc.1
  · cases h
section AMI
variable {p : Program} {l : Launch} {e : Env} {R : Room} {s : State} {m : MethodId} {args : Array Value} {below : List Frame} {meth : Method} {c : Code} {H : Heap} {locs : List Loc} {cells slots mc ms : Nat} {Q : State → Prop}
variable {M : Nat → am_M} {kd : Nat → Nat} {G : am_G} {k pc : Nat} {ls : Array Slot}
theorem am_cw_code {j : Nat} (hgw : ∀ w ∈ am_gw, w.before args s = true) (hm : am_mok M kd j) (hh : (M j).2.2.2.2 = []) : (Cond.code (M j).1 (M j).2.1 (M j).2.2.1 (M j).2.2.2.1).before args s = true := by
  have h := hgw _ hm.1
  unfold am_cw at h
  rw [if_pos hh] at h
  exact h
set_option maxHeartbeats 1000000 in
theorem am_hinv (C : am_ctx M G p s m args meth c k) {op : Instr} {len a b w : Nat} {cst : Int} (hm : am_mok M kd a) (hk : am_kchk kd (op, len, a, b, w, cst)) (hcall : am_isCall op = true) (hne : a ≠ 99999) (hchk : am_chk M k pc (op, len, a, b, w, cst) = true)
    {st as rest : List Value} {S : am_S} (hargs : am_args (op, len, a, b, w, cst) st = some (as, rest)) (hrec : am_recv M (op, len, a, b, w, cst) as S = true) (hw : am_world G S H) (T : State) (hT : T.heap = H) (X : Stand p l e R s m args below meth c T locs cells slots) :
    ∃ (vm₁ : Vm) (mk : MethodId), Stand p l e R s m args below meth c (T.setVm vm₁) locs cells slots ∧ (T.setVm vm₁).methodNamed? (M a).1 = some mk ∧
      ∀ target, (∀ acts, Steps p.tables e below (doInvoke e ((T.setVm vm₁).setTop { F0 m pc ls (st.map (am_v G)) with stack := rest.map (am_v G) }) acts mk (as.map (am_v G)).toArray).1 target) → Steps p.tables e below (T.setTop (F0 m pc ls (st.map (am_v G)))) target := by
  obtain ⟨hx, hb, hml, hown, hgw, henv, hnm⟩ := C
  obtain ⟨hd, hln, hc2⟩ := am_chk_sp hchk
  obtain ⟨hst, hlen, -⟩ := am_args_inv hargs
  dsimp only at hd hln hc2 hlen
  have hpl : e.platform.magicAccessors = ({} : Platform).magicAccessors := by rw [X.admits.platform]
  obtain ⟨hcw, hini, hmx, hpn, hy, hk0, hk1, hk2⟩ := id hm
  have hdg : ∀ {ig : Instr}, op = ig → len = 3 → decode c.code (F0 m pc ls (st.map (am_v G))).pc = .ok (ig, 3) := fun h1 h2 => by rw [hb]; subst h1; subst h2; exact hd
  cases op <;> first | (exact absurd (show false = true from hcall) (by decide)) | skip
  case invokevirtual x =>
    have hl3 : len = 3 := by simpa [am_sws, am_len] using hln
    obtain ⟨hinst, hsel, hh⟩ := hk0 (hk.1 x rfl)
    simp only [am_recv] at hrec
    cases as with
    | nil => cases hrec
    | cons v0 As =>
      cases v0 with
      | ref o =>
        dsimp only at hrec
        split at hrec
        · rename_i ci fs hg
          obtain ⟨ho, hcell⟩ := am_get_inv hg
          have hcn := of_decide_eq_true hrec
          cases hcq : vwCl[ci]? with
          | none => rw [hcq] at hcn; cases hcn
          | some cq =>
            rw [hcq] at hcn
            have hcn : cq.1 = (M a).1.cls := Option.some.inj hcn
            have he : (am_ws G S)[o]? = some (am_b0 G + o, .inr (ci, fs.map (am_v G))) := by rw [am_ws_at ho, hcell]; rfl
            obtain ⟨cellB, hcB, hoB, hclB⟩ := va_recv henv.1 hw.1 hcq he
            have had : am_ad G o = am_b0 G + o := am_ad_low (by have := hw.2; omega)
            rw [hcn] at hclB
            obtain ⟨mk, methM, hnamed, hmethM, hstM, habM⟩ := Cond.instanceMethod_spec (hgw _ hinst)
            obtain ⟨methM', cM, hmethM', -, -, -, -, -, -, hsigM⟩ := Cond.code_spec hnamed (am_cw_code hgw hm hh)
            cases hmethM.symm.trans hmethM'
            obtain ⟨c2, r2, m2, q1, q2, q3, q4, kP, hkP, hkPi⟩ := Cond.selects_spec (hgw _ hsel)
            cases hclB.symm.trans q1
            cases (State.methodFound?_of_named hnamed hy).symm.trans q2
            cases hnamed.symm.trans q3
            have hselP : selectMethod e.platform s.vm cellB.cls mk = .method mk := by rw [Launch.admits_selectMethod X.admits]; exact q4
            have hstack : (F0 m pc ls (st.map (am_v G))).stack = (As.map (am_v G)).reverse ++ .ref (am_b0 G + o) :: rest.map (am_v G) := by
              show st.map (am_v G) = _
              rw [hst, ← had]
              simp [am_v]
            simp only [am_chk2, Bool.and_eq_true, Bool.or_eq_true, decide_eq_true_eq] at hc2
            have hln9 : (As.map (am_v G)).length = methM.sig.parameters.length := by
              have h9 := hc2.1.1
              rw [hsigM] at h9
              have h10 : methM.sig.parameters.length + 1 = b := Option.some.inj h9
              rw [List.length_map]
              simp only [List.length_cons] at hlen
              omega
            have hav : ((Value.ref o :: As).map (am_v G)).toArray = (Value.ref (am_b0 G + o) :: As.map (am_v G)).toArray := by
              rw [← had]; rfl
            rw [hav]
            rcases hc2.2 with hl1 | hl1
            · obtain ⟨vm₁, X₁, hstep₁⟩ := X.invokevirtual hx hown (hgw _ (am_word_gw hl1 rfl)) hnamed hmethM hstM hkP hkPi hy (a := am_b0 G + o) (cell := cellB) (by rw [hT]; exact hcB)
                (fun z h => by rw [h] at hoB; cases hoB) hselP hmethM habM hkP hkPi (g := F0 m pc ls (st.map (am_v G))) rfl (argsL := As.map (am_v G)) (rest := rest.map (am_v G)) hln9 hstack (hdg rfl hl3)
              exact ⟨vm₁, mk, X₁, X₁.named hnamed, hstep₁⟩
            · have hnw := va_Nw.use (A := args) rfl (henv.2.2.2.2.2.1 _ (List.mem_filter.mpr ⟨am_word_in hl1, rfl⟩))
              obtain ⟨vm₁, X₁, hstep₁⟩ := X.invokevirtualNest hx hown hnw hnamed hmethM hstM hkP hkPi hy (a := am_b0 G + o) (cell := cellB) (by rw [hT]; exact hcB)
                (fun z h => by rw [h] at hoB; cases hoB) hselP hmethM habM hkP hkPi (g := F0 m pc ls (st.map (am_v G))) rfl (argsL := As.map (am_v G)) (rest := rest.map (am_v G)) hln9 hstack (hdg rfl hl3)
              exact ⟨vm₁, mk, X₁, X₁.named hnamed, hstep₁⟩
        · cases hrec
      | _ => cases hrec
  case invokespecial x =>
    have hl3 : len = 3 := by simpa [am_sws, am_len] using hln
    obtain ⟨hinst, hnm2, hret, hh⟩ := hk2 (hk.2.2 x rfl hne)
    have hcode := am_cw_code hgw hm hh
    rw [hret] at hcode
    simp only [am_recv] at hrec
    cases as with
    | nil => cases hrec
    | cons v0 As =>
      cases v0 with
      | ref o =>
        have hstack : (F0 m pc ls (st.map (am_v G))).stack = (As.map (am_v G)).reverse ++ .ref (am_ad G o) :: rest.map (am_v G) := by
          show st.map (am_v G) = _
          rw [hst]
          simp [am_v]
        simp only [am_chk2, if_neg hne, Bool.and_eq_true, Bool.or_eq_true, decide_eq_true_eq] at hc2
        have hln9 : ∀ sig, parseMethodDescriptor (M a).1.desc = some sig → (As.map (am_v G)).length = sig.parameters.length := by
          intro sig hsig
          have h9 := hc2.1.2
          rw [hsig] at h9
          have h10 : sig.parameters.length + 1 = b := Option.some.inj h9
          rw [List.length_map]
          simp only [List.length_cons] at hlen
          omega
        rcases hc2.2 with hl1 | hl1
        · obtain ⟨mk, methM, cM, kP, vm₁, hnamed, hmethM, hcodeM, -, hlocalsM, -, hkP, -, hW₁, hstep₁⟩ := Steps.initColdArgs (e := e) X.here hx X.warmed hpl hown hnm2 hy (hgw _ (am_word_gw hl1 rfl)) (hgw _ hinst) hcode (f := F0 m pc ls (st.map (am_v G))) rfl hln9 hstack (hdg rfl hl3)
          have X₁ := X.noted hW₁
          exact ⟨vm₁, mk, X₁, X₁.named hnamed, hstep₁⟩
        · have hnw := va_Nw.use (A := args) rfl (henv.2.2.2.2.2.1 _ (List.mem_filter.mpr ⟨am_word_in hl1, rfl⟩))
          obtain ⟨mk, methM, cM, kP, vm₁, hnamed, hmethM, hcodeM, -, hlocalsM, -, hkP, -, hW₁, hstep₁⟩ := Steps.initColdArgsNest (e := e) X.here hx X.warmed hpl hown hnm2 hy hnw (hgw _ hinst) hcode (f := F0 m pc ls (st.map (am_v G))) rfl hln9 hstack (hdg rfl hl3)
          have X₁ := X.noted hW₁
          exact ⟨vm₁, mk, X₁, X₁.named hnamed, hstep₁⟩
      | _ => cases hrec
  case invokestatic x =>
    have hl3 : len = 3 := by simpa [am_sws, am_len] using hln
    have hstt := hgw _ (hk1 (hk.2.1 x rfl))
    have hstack : (F0 m pc ls (st.map (am_v G))).stack = (as.map (am_v G)).reverse ++ rest.map (am_v G) := by
      show st.map (am_v G) = _
      rw [hst]
      simp
    simp only [am_chk2, Bool.and_eq_true, decide_eq_true_eq] at hc2
    have hln9 : ∀ sig, parseMethodDescriptor (M a).1.desc = some sig → (as.map (am_v G)).length = sig.parameters.length := by
      intro sig hsig
      have h9 := hc2.1.1
      rw [hsig] at h9
      have h10 : sig.parameters.length = b := Option.some.inj h9
      rw [List.length_map]
      omega
    have key : ∃ mk methM, s.methodNamed? (M a).1 = some mk ∧ s.vm.method? mk = some methM ∧ parseMethodDescriptor (M a).1.desc = some methM.sig := by
      have h := hgw _ hcw
      unfold am_cw at h
      split at h
      · obtain ⟨mk, hnamed⟩ := Cond.code_named h
        obtain ⟨methM, cM, hmethM, -, -, -, -, -, -, hsigM⟩ := Cond.code_spec hnamed h
        exact ⟨mk, methM, hnamed, hmethM, hsigM⟩
      · obtain ⟨mk, methM, cM, hnamed, hmethM, -, -, -, -, -, -, hsigM⟩ := Cond.codeWith_spec h
        exact ⟨mk, methM, hnamed, hmethM, hsigM⟩
    obtain ⟨mk, methM, hnamed, hmethM, hsigM⟩ := key
    have hstatic : methM.isStatic = true := Cond.static_spec hnamed hmethM hstt
    obtain ⟨kP, hkP, -⟩ := className_of_methodNamed hnamed
    have hinitP : kP.init = .initialized := Cond.initialized_spec (findClass_of_methodNamed hnamed) hkP (hgw _ hini)
    obtain ⟨vm₁, X₁, hstep₁⟩ := X.invokestatic hx hown (hgw _ (am_word_gw hc2.2 rfl)) hnamed hmethM hstatic hkP hinitP hy (g := F0 m pc ls (st.map (am_v G))) rfl (argsL := as.map (am_v G)) (rest := rest.map (am_v G)) (hln9 _ hsigM) hstack (hdg rfl hl3)
    exact ⟨vm₁, mk, X₁, X₁.named hnamed, hstep₁⟩
end AMI
end
section
/-! WHAT THE SMALL MACHINE DOES, THE MACHINE DOES -/
def am_le (S T : am_S) : Prop := S.1 ≤ T.1 ∧ S.2.2.1 ≤ T.2.2.1 ∧ S.2.2.2 ≤ T.2.2.2 ∧ T.1 + S.2.2.1 ≤ T.2.2.1 + S.1
theorem am_le_rf (S : am_S) : am_le S S := ⟨Nat.le_refl _, Nat.le_refl _, Nat.le_refl _, by omega⟩
theorem am_le_tr {S T U : am_S} (h : am_le S T) (h2 : am_le T U) : am_le S U := by
  unfold am_le at *
  omega
theorem am_le_upd (S : am_S) (a : Nat) (x : am_C) : am_le S (am_upd S a x) := am_le_rf S
theorem am_le_push (S : am_S) (x : am_C) (n : Nat) : am_le S (am_push S x n) := by
  unfold am_le am_push
  dsimp only
  omega
theorem am_le_thrown (S : am_S) : am_le S (am_thrown S) := by
  unfold am_le am_thrown
  dsimp only
  omega
set_option maxHeartbeats 4000000 in
theorem am_step_le {X : Nat × (Nat → Int32)} {i : am_I} {pc : Nat} {L : am_L} {st : List Value} {S : am_S} {q : am_F} (h : am_step X i pc L st S = some q) : am_le S q.2.2.2 := by
  obtain ⟨op, len, a, b, w, cst⟩ := i
  cases op <;> simp only [am_step, am_load, am_store, am_aload, am_astore, am_alen, am_getf, am_putf, am_newa] at h <;>
    (repeat' (split at h)) <;>
    first | (cases h; done) | (cases h; exact am_le_rf S) | (cases h; exact am_le_upd S _ _) | (cases h; exact am_le_push S _ _)
theorem am_end_le {ret : Option FieldType} {i : am_I} {st : List Value} {S : am_S} {r : am_R} (h : am_end ret i st S = some r) : am_le S r.2 := by
  obtain ⟨op, len, a, b, w, cst⟩ := i
  unfold am_end at h
  dsimp only at h
  split at h
  · split at h
    · split at h
      · cases h; exact am_le_rf S
      · cases h
    · cases h
  · split at h
    · cases h; exact am_le_rf S
    · cases h
  · split at h
    · cases h; exact am_le_rf S
    · cases h
  · split at h
    · split at h
      · cases h; exact am_le_thrown S
      · cases h; exact am_le_thrown S
      · cases h; exact am_le_thrown S
      · cases h
    · cases h
  · cases h
theorem am_go_le {P : Nat → Nat → Option am_I} {M : Nat → am_M} {X : Nat × (Nat → Int32)} {ev : Nat → List Value → am_S → am_R → Prop} (hev : ∀ k as S r, ev k as S r → am_le S r.2) {k : Nat} :
    ∀ {n pc : Nat} {L : am_L} {st : List Value} {S : am_S} {r : am_R}, am_go P M X ev k n pc L st S r → am_le S r.2 := by
  intro n
  induction n with
  | zero => intro pc L st S r h; exact absurd h (by simp [am_go])
  | succ n ih =>
    intro pc L st S r h
    simp only [am_go] at h
    obtain ⟨i, hi, ⟨q, hq, hgo⟩ | he | ⟨-, -, as, rest, r1, -, -, hr1, hm⟩⟩ := h
    · exact am_le_tr (am_step_le hq) (ih hgo)
    · exact am_end_le he
    · have h1 := hev _ _ _ _ hr1
      split at hm
      · exact am_le_tr h1 (ih hm)
      · rcases hm with ⟨-, rfl⟩ | ⟨x, -, rfl⟩
        · exact h1
        · exact h1
theorem am_ev_le {P : Nat → Nat → Option am_I} {M : Nat → am_M} {X : Nat × (Nat → Int32)} : ∀ {d k : Nat} {as : List Value} {S : am_S} {r : am_R}, am_ev P M X d k as S r → am_le S r.2 := by
  intro d
  induction d with
  | zero => intro k as S r h; exact absurd h (by simp [am_ev])
  | succ d ih =>
    intro k as S r h
    simp only [am_ev] at h
    obtain ⟨-, n, hn⟩ := h
    exact am_go_le (fun k as S r h => ih h) hn
/-- what a handler is: it keeps the object, and gives back a number -/
def am_hok (M : Nat → am_M) (k : Nat) : Prop := ∀ h ∈ (M k).2.2.2.2, (∃ e9, e9 < 3 ∧ h.2.2.2.2.1 = am_exc (100 + e9)) ∧ h.2.2.2.1 ≠ 0 ∧ Cond.classLink (M k).1.cls h.2.2.2.1 h.2.2.2.2.1 ∈ am_gw ∧ Cond.castable h.2.2.2.2.1 h.2.2.2.2.1 ∈ am_nw ∧ (M k).2.2.2.1 = some .int ∧
  ∃ (n : Int) (q : Nat), Int32.ofInt n = h.2.2.2.2.2 ∧ ((∃ j : Fin 4, decode (M k).2.1 h.2.2.1 = .ok (.astore_n j, 1) ∧ q = h.2.2.1 + 1 ∧ (j : Nat) < (M k).2.2.1) ∨ (∃ j : Nat, decode (M k).2.1 h.2.2.1 = .ok (.astore j, 2) ∧ q = h.2.2.1 + 2 ∧ j < (M k).2.2.1)) ∧
    decode (M k).2.1 q = .ok (.iconst n, 1) ∧ decode (M k).2.1 (q + 1) = .ok (.ireturn, 1)
theorem am_find_split {pc : Nat} {E : String} {x : Int32} : ∀ {hs : List (Nat × Nat × Nat × Nat × String × Int32)}, am_find hs pc E = some x →
    ∃ pre h suf, hs = pre ++ h :: suf ∧ (h.1 ≤ pc ∧ pc < h.2.1) ∧ h.2.2.2.2.1 = E ∧ h.2.2.2.2.2 = x ∧ ∀ y ∈ pre, ¬ (y.1 ≤ pc ∧ pc < y.2.1 ∧ y.2.2.2.2.1 = E) := by
  intro hs
  induction hs with
  | nil => intro h; cases h
  | cons y t ih =>
    intro h
    unfold am_find at h
    split at h
    · rename_i hc
      exact ⟨[], y, t, rfl, ⟨hc.1, hc.2.1⟩, hc.2.2, Option.some.inj h, fun z hz => by cases hz⟩
    · rename_i hc
      obtain ⟨pre, h0, suf, e1, e2, e3, e4, e5⟩ := ih h
      refine ⟨y :: pre, h0, suf, by rw [e1]; rfl, e2, e3, e4, fun z hz => ?_⟩
      rcases List.mem_cons.mp hz with rfl | hz
      · exact hc
      · exact e5 z hz
theorem am_thr_ok : ∀ q ∈ am_thr, (∀ w ∈ vx_at0 q.1 q.2.1 q.2.2 am_names, w ∈ am_gw ∨ w ∈ am_nw) ∧ (∀ w ∈ vx_at0 q.1 q.2.1 q.2.2 am_names, vx_ot w = true) ∧ Bundle.fit q.2.2 = true ∧ Cond.initialized q.2.2 ∈ am_gw := by decide +kernel
theorem am_names_fit : ∀ n ∈ am_names, Bundle.fit n = true := by decide +kernel
end
section
/-! WHAT THE SMALL MACHINE DOES, THE MACHINE DOES: a frame's run, then every method's contract -/
section AMG
variable {p : Program} {l : Launch} {e : Env} {R : Room} {s : State} {m : MethodId} {args : Array Value} {below : List Frame} {meth : Method} {c : Code} {Q : State → Prop}
variable {M : Nat → am_M} {kd : Nat → Nat} {P : Nat → Nat → Option am_I} {G : am_G} {k d : Nat}
set_option maxHeartbeats 1000000 in
theorem am_go_ok (hP : ∀ k pc i, P k pc = some i → am_chk M k pc i = true ∧ am_kchk kd i ∧ (am_isCall i.1 = true → i.2.2.1 ≠ 99999 → am_mok M kd i.2.2.1))
    (ihd : ∀ j as S r, am_mok M kd j → am_ev P M (am_X G) d j as S r → vx_Met l (M j).1 (am_wsM M j) (am_room d S r) (am_Pc G as S) (am_Qc G r) (am_XC G r) (r.2.2.2.1 - S.2.2.1) (r.2.2.2.2 - S.2.2.2) (am_A G))
    (C : am_ctx M G p s m args meth c k) {c0 s0 : Nat} {rF : am_R} (hRf : 17 + d ≤ R.frames) (hRl : 460 + 60 * d ≤ R.locals) (hRc : rF.2.2.2.1 ≤ c0 + R.cells) (hRs : rF.2.2.2.2 ≤ s0 + R.slots)
    (kend : ∀ (pc : Nat) (i : am_I) (L : am_L) (st : List Value) (S : am_S) (H : Heap) (locs : List Loc) (ls : Array Slot), P k pc = some i → am_end (M k).2.2.2.1 i st S = some rF → am_ls G ls (M k).2.2.1 L → am_world G S H → va_S (am_A G) s.heap H locs → c0 ≤ S.2.2.1 → s0 ≤ S.2.2.2 →
      W p l e R s m args below meth c H locs (S.2.2.1 - c0) (S.2.2.2 - s0) Q (F0 m pc ls (st.map (am_v G))))
    (kout : ∀ (E : String) (ce : Cell) (q9 : Addr) (pc : Nat) (rest : List Value) (S : am_S) (H : Heap) (locs : List Loc) (ls : Array Slot), (M k).2.2.2.2 = [] → rF = (.inr E, S) → am_world G S H → va_S (am_A G) s.heap H locs → H[q9]? = some ce → ce.vm = .none → s.vm.findClass E = some ce.cls →
      vx_W p l e R s m args below meth c H locs (S.2.2.1 - c0) (S.2.2.2 - s0) Q (F0 m pc ls rest) q9)
    (kcat : ∀ (E : String) (ce : Cell) (q9 : Addr) (pc : Nat) (x : Int32) (L : am_L) (rest : List Value) (S : am_S) (H : Heap) (locs : List Loc) (ls : Array Slot), am_find (M k).2.2.2.2 pc E = some x → rF = (.inl (some (.int x)), S) → am_ls G ls (M k).2.2.1 L → am_world G S H → va_S (am_A G) s.heap H locs → H[q9]? = some ce → ce.vm = .none → s.vm.findClass E = some ce.cls →
      vx_W p l e R s m args below meth c H locs (S.2.2.1 - c0) (S.2.2.2 - s0) Q (F0 m pc ls rest) q9) :
    ∀ (n pc : Nat) (L : am_L) (st : List Value) (S : am_S), am_go P M (am_X G) (am_ev P M (am_X G) d) k n pc L st S rF → ∀ (H : Heap) (locs : List Loc) (ls : Array Slot), am_ls G ls (M k).2.2.1 L → am_world G S H → va_S (am_A G) s.heap H locs → c0 ≤ S.2.2.1 → s0 ≤ S.2.2.2 → S.1 ≤ S.2.2.1 →
      (S.2.2.1 = S.1 → s.heap.size + (S.2.2.1 - c0) ≤ am_b0 G + S.1) → W p l e R s m args below meth c H locs (S.2.2.1 - c0) (S.2.2.2 - s0) Q (F0 m pc ls (st.map (am_v G))) := by
  intro n
  induction n with
  | zero => intro pc L st S h; exact absurd h (by simp [am_go])
  | succ n ih =>
    intro pc L st S h H locs ls hl hw hS hc0 hs0 hn hsz
    have hle : am_le S rF.2 := am_go_le (fun _ _ _ _ h9 => am_ev_le h9) h
    simp only [am_go] at h
    obtain ⟨i, hi, h⟩ := h
    obtain ⟨hchk, hkc, hmk⟩ := hP _ _ _ hi
    rcases h with ⟨q, hq, hgo⟩ | he | ⟨hcall, hne, as, rest, r1, hargs, hrec, hr1, hm⟩
    · have h1 := am_step_le hq
      have h2 : am_le q.2.2.2 rF.2 := am_go_le (fun _ _ _ _ h9 => am_ev_le h9) hgo
      unfold am_le at h1 h2
      refine am_step_ok C hchk hq hl hw hS hc0 hs0 (by omega) (by omega) (by omega) (by omega) hsz (fun H1 locs1 ls1 hl1 hw1 hS1 => ?_)
      exact ih _ _ _ _ hgo H1 locs1 ls1 hl1 hw1 hS1 (by omega) (by omega) (by omega) (fun e1 => by have h3 := hsz (by omega); omega)
    · exact kend pc i L st S H locs ls hi he hl hw hS hc0 hs0
    · obtain ⟨hx, hb, hml, hown, hgw, henv, hnm⟩ := id C
      have hmok := hmk hcall hne
      have h1 : am_le S r1.2 := am_ev_le hr1
      obtain ⟨op, len, a, b, w, cst⟩ := i
      have h2 : am_le r1.2 rF.2 := by
        split at hm
        · exact am_go_le (fun _ _ _ _ h9 => am_ev_le h9) hm
        · rcases hm with ⟨-, rfl⟩ | ⟨x, -, rfl⟩
          · exact am_le_rf _
          · exact am_le_rf _
      obtain ⟨hst, hal, h8⟩ := am_args_inv hargs
      have hd := (am_chk_sp hchk).1
      have hl3 : len = 3 := by
        have h9 := (am_chk_sp hchk).2.1
        dsimp only at h9 hcall
        cases op <;> first | (exact absurd (show false = true from hcall) (by decide)) | simpa [am_sws, am_len] using h9
      subst hl3
      dsimp only at hr1 hmok hd
      refine am_bysize fun hHs => ?_
      have hK := am_back (p := p) (e := e) (below := below) (R := R) hgw hmok (ihd a as S r1 hmok hr1) (am_blind G as S) rfl rfl (by show 16 + d + 1 ≤ R.frames; omega) (by show 8 + ((M a).2.2.1 + 11) + (400 + 60 * d) ≤ R.locals; have := hmok.2.2.1; omega)
      unfold am_le at h1 h2
      have hr := am_run_of (a := (as.map (am_v G)).toArray) (g := F0 m pc ls (st.map (am_v G))) (rest := rest.map (am_v G)) (H := H) (locs := locs) (cells := S.2.2.1 - c0) (slots := S.2.2.2 - s0) (meth := meth) hK (fun T hT X => am_hinv C hmok hkc hcall hne hchk hargs hrec hw T hT X)
        (fun U hU hW => ⟨rfl, by rw [hU]; exact hw, am_env_move henv hW (fun q h9 h10 => by rw [hU]; exact hS.2.1 q h9 h10) (by rw [hU]; exact hS.1), fun e9 => by have h3 := hsz e9; rw [hU]; omega, hn⟩)
        rfl (hl.1.trans hml.symm) (by show 2 * 0 + ((rest.map (am_v G)).map fun v => v.category).sum ≤ 8; rw [am_v_cats]; omega) (by rw [hb]; exact hd) ⟨by omega, by omega⟩
      refine am_after hr hS (fun v H1 locs1 hv hw1 hS1 => ?_) (fun E ce q9 H1 locs1 hE hw1 hS1 hce hcv hcl => ?_)
      · rw [hv] at hm
        dsimp only at hm
        have e1 : (v.map (am_v G)).toList ++ rest.map (am_v G) = (v.toList ++ rest).map (am_v G) := by cases v <;> simp
        show W p l e R s m args below meth c H1 locs1 _ _ Q (F0 m (pc + 3) ls ((v.map (am_v G)).toList ++ rest.map (am_v G)))
        rw [e1]
        exact am_eqW (by omega) (by omega) (ih _ _ _ _ hm H1 locs1 ls hl hw1 hS1 (by omega) (by omega) (by omega) (fun e9 => by have h3 := hsz (by omega); omega))
      · rw [hE] at hm
        dsimp only at hm
        have key : ∀ {g9 : JFrame}, vx_W p l e R s m args below meth c H1 locs1 (r1.2.2.2.1 - c0) (r1.2.2.2.2 - s0) Q g9 q9 → vx_W p l e R s m args below meth c H1 locs1 (S.2.2.1 - c0 + (r1.2.2.2.1 - S.2.2.1)) (S.2.2.2 - s0 + (r1.2.2.2.2 - S.2.2.2)) Q g9 q9 := by
          intro g9 hk9
          rw [show S.2.2.1 - c0 + (r1.2.2.2.1 - S.2.2.1) = r1.2.2.2.1 - c0 by omega, show S.2.2.2 - s0 + (r1.2.2.2.2 - S.2.2.2) = r1.2.2.2.2 - s0 by omega]
          exact hk9
        rcases hm with ⟨hh, hrF⟩ | ⟨x, hf, hrF⟩
        · exact key (kout E ce q9 pc _ r1.2 H1 locs1 ls hh hrF hw1 hS1 hce hcv hcl)
        · exact key (kcat E ce q9 pc x L _ r1.2 H1 locs1 ls hf hrF hl hw1 hS1 hce hcv hcl)
end AMG
end
section
/-! EVERY METHOD OF THE SMALL MACHINE HAS ITS CONTRACT OF THE MACHINE -/
theorem am_flat_len (G : am_G) (as : List Value) : (lg_sl (as.map (am_v G))).length = (am_flat as).length := by
  induction as with
  | nil => rfl
  | cons v t ih =>
    have e1 : lg_sl ((v :: t).map (am_v G)) = (if v.category = 2 then [.val (am_v G v), .second] else [.val (am_v G v)]) ++ lg_sl (t.map (am_v G)) := by
      simp [lg_sl, am_v_cat]
    have e2 : am_flat (v :: t) = (if v.category = 2 then [some v, none] else [some v]) ++ am_flat t := by simp [am_flat]
    rw [e1, e2, List.length_append, List.length_append, ih]
    split <;> rfl
theorem am_flat_at (G : am_G) : ∀ (as : List Value) (i : Nat) (v : Value), (am_flat as)[i]? = some (some v) → (lg_sl (as.map (am_v G)))[i]? = some (.val (am_v G v)) := by
  intro as
  induction as with
  | nil => intro i v h; simp [am_flat] at h
  | cons w t ih =>
    intro i v h
    have e1 : lg_sl ((w :: t).map (am_v G)) = (if w.category = 2 then [.val (am_v G w), .second] else [.val (am_v G w)]) ++ lg_sl (t.map (am_v G)) := by
      simp [lg_sl, am_v_cat]
    have e2 : am_flat (w :: t) = (if w.category = 2 then [some w, none] else [some w]) ++ am_flat t := by simp [am_flat]
    rw [e2] at h
    rw [e1]
    split at h
    · rename_i hc
      rw [if_pos hc]
      match i, h with
      | 0, h => cases h; rfl
      | 1, h => cases h
      | j + 2, h => exact ih j v h
    · rename_i hc
      rw [if_neg hc]
      match i, h with
      | 0, h => cases h; rfl
      | j + 1, h => exact ih j v h
theorem am_entry_ls (G : am_G) (as : List Value) {n : Nat} (h : (am_flat as).length ≤ n) : am_ls G ((lg_sl (as.map (am_v G)) ++ List.replicate (n - (lg_sl (as.map (am_v G))).length) Slot.unset).toArray) n (am_entry n as) := by
  have hl := lv_entry (as.map (am_v G)) (n := n) (by rw [am_flat_len]; exact h)
  refine ⟨hl.1, hl.2.1, ?_, fun i v hi => ?_⟩
  · simp only [am_entry, List.length_append, List.length_replicate]
    omega
  · unfold am_entry at hi
    by_cases hlt : i < (am_flat as).length
    · rw [List.getElem?_append_left hlt] at hi
      have h1 := am_flat_at G as i v hi
      rw [List.getElem?_toArray, List.getElem?_append_left (by rw [am_flat_len]; exact hlt)]
      exact h1
    · rw [List.getElem?_append_right (Nat.le_of_not_lt hlt), List.getElem?_replicate] at hi
      split at hi <;> cases hi
theorem am_end_i {ret : Option FieldType} {len a b w : Nat} {cst : Int} {st : List Value} {S : am_S} {r : am_R} (h : am_end ret (.ireturn, len, a, b, w, cst) st S = some r) : ∃ v ty, st = [.int v] ∧ ret = some ty ∧ narrow ty (.int v) = .int v ∧ r = (.inl (some (.int v)), S) := by
  unfold am_end at h
  dsimp only at h
  split at h
  · split at h
    · rename_i hn
      cases h
      exact ⟨_, _, rfl, rfl, hn, rfl⟩
    · cases h
  · cases h
theorem am_end_l {ret : Option FieldType} {len a b w : Nat} {cst : Int} {st : List Value} {S : am_S} {r : am_R} (h : am_end ret (.lreturn, len, a, b, w, cst) st S = some r) : ∃ v, st = [.long v] ∧ ret = some .long ∧ r = (.inl (some (.long v)), S) := by
  unfold am_end at h
  dsimp only at h
  split at h
  · cases h
    exact ⟨_, rfl, rfl, rfl⟩
  · cases h
theorem am_end_v {ret : Option FieldType} {len a b w : Nat} {cst : Int} {st : List Value} {S : am_S} {r : am_R} (h : am_end ret (.return_, len, a, b, w, cst) st S = some r) : st = [] ∧ ret = none ∧ r = (.inl none, S) := by
  unfold am_end at h
  dsimp only at h
  split at h
  · cases h
    exact ⟨rfl, rfl, rfl⟩
  · cases h
theorem am_end_n {ret : Option FieldType} {x len a b w : Nat} {cst : Int} {st : List Value} {S : am_S} {r : am_R} (h : am_end ret (.new x, len, a, b, w, cst) st S = some r) : st = [] ∧ (a = 100 ∨ a = 101 ∨ a = 102) ∧ r = (.inr (am_exc a), am_thrown S) := by
  unfold am_end at h
  dsimp only at h
  split at h
  · rename_i hs
    split at h
    · cases h; exact ⟨hs, Or.inl rfl, rfl⟩
    · cases h; exact ⟨hs, Or.inr (Or.inl rfl), rfl⟩
    · cases h; exact ⟨hs, Or.inr (Or.inr rfl), rfl⟩
    · cases h
  · cases h
/-- a contract out of its body, for a method in whose place no native stands -/
theorem am_ofW {l : Launch} {y : MethodName} {ws : List Cond} {rm : Room} {Pc : Array Value → State → Prop} {Qc : Array Value → State → Outcome → State → Prop} {XC : String → State → State → Prop} {mc ms : Nat} {free : Addr → Prop} {cc : ByteArray} {maxL : Nat} {ret : Option FieldType}
    (hy : plainFor y = true) (hw : Cond.code y cc maxL ret ∈ ws)
    (body : ∀ p e s m args below meth c s₁, BodyLoose p l y (headSpec ws rm) cc maxL ret e s m args below meth c s₁ → c.maxLocals = maxL → (∀ x ∈ c.exceptionTable.toList, False) → Pc args s →
      W p l e (headSpec ws rm).room s m args below meth c s.heap [] 0 0 (vx_MQ below Qc XC args s mc ms free) (entryFrame m args maxL)) : vx_Met l y ws rm Pc Qc XC mc ms free := by
  refine MetFree.of_bodySF (code := cc) (maxLocals := maxL) (ret := ret) hy ?_ ?_
  · intro args s m h hn
    obtain ⟨meth, c, h1, h2, h3, h4, h5, h6, -, -⟩ := Cond.code_spec hn (atoms_spec (ws := ws) h _ hw)
    exact ⟨meth, c, h1, h2, h3, h4, h5, h6⟩
  · intro p e s m args below meth c s₁ B hml hP _
    have hh0 : s₁.heap = s.heap := by rw [B.state]; rfl
    have ht : ∀ x ∈ c.exceptionTable.toList, False := by
      obtain ⟨meth9, c9, h1, h2, -, -, -, -, h7, -⟩ := Cond.code_spec B.named (atoms_spec (ws := ws) B.pre _ hw)
      cases Option.some.inj (h1.symm.trans B.method)
      cases Option.some.inj (h2.symm.trans (Stand.of_body B).code)
      intro x hx
      rw [Array.isEmpty_iff.mp h7] at hx
      cases hx
    obtain ⟨t, a1, o, b1, b2, b3⟩ := body p e s m args below meth c s₁ B hml ht hP s₁ hh0 (Stand.of_body B)
    exact ⟨t, o, a1, b1, b2, b3⟩
theorem am_ofWH {l : Launch} {y : MethodName} {ws : List Cond} {rm : Room} {Pc : Array Value → State → Prop} {Qc : Array Value → State → Outcome → State → Prop} {XC : String → State → State → Prop} {mc ms : Nat} {free : Addr → Prop} {cc : ByteArray} {maxL : Nat} {ret : Option FieldType} {hh : List (Nat × Nat × Nat × Nat)}
    (hy : plainFor y = true) (hw : Cond.codeWith y cc maxL ret hh ∈ ws)
    (body : ∀ p e s m args below meth c s₁, BodyLoose p l y (headSpec ws rm) cc maxL ret e s m args below meth c s₁ → c.maxLocals = maxL → Pc args s →
      W p l e (headSpec ws rm).room s m args below meth c s.heap [] 0 0 (vx_MQ below Qc XC args s mc ms free) (entryFrame m args maxL)) : vx_Met l y ws rm Pc Qc XC mc ms free := by
  refine MetFree.of_bodySF (code := cc) (maxLocals := maxL) (ret := ret) hy ?_ ?_
  · intro args s m h hn
    obtain ⟨m9, meth, c, hn9, h1, h2, h3, h4, -, h5, h6, -⟩ := Cond.codeWith_spec (atoms_spec (ws := ws) h _ hw)
    cases hn.symm.trans hn9
    exact ⟨meth, c, h1, h2, h3, h4, h5, h6⟩
  · intro p e s m args below meth c s₁ B hml hP _
    have hh0 : s₁.heap = s.heap := by rw [B.state]; rfl
    obtain ⟨t, a1, o, b1, b2, b3⟩ := body p e s m args below meth c s₁ B hml hP s₁ hh0 (Stand.of_body B)
    exact ⟨t, o, a1, b1, b2, b3⟩
section AMS
variable {l : Launch} {M : Nat → am_M} {kd : Nat → Nat} {P : Nat → Nat → Option am_I} {G : am_G}
section AMS1
variable {p : Program} {e : Env} {R : Room} {s : State} {m : MethodId} {args : Array Value} {below : List Frame} {meth : Method} {c : Code} {k pc : Nat} {ls : Array Slot} {H : Heap} {locs : List Loc}
/-- a method's end -/
theorem am_kend (hl : l.stackTraces = false) (C : am_ctx M G p s m args meth c k) (hlocks : meth.locks = false) (hr : meth.sig.returnType = (M k).2.2.2.1) (htab : c.exceptionTable.toList = tableOf (am_hh M k)) {c0 s0 : Nat} {rF : am_R} {i : am_I} {L : am_L} {st : List Value} {S : am_S}
    (hRf : 17 ≤ R.frames) (hRl : 460 ≤ R.locals) (hRc : rF.2.2.2.1 ≤ c0 + R.cells) (hRs : rF.2.2.2.2 ≤ s0 + R.slots)
    (hchk : am_chk M k pc i = true) (he : am_end (M k).2.2.2.1 i st S = some rF) (hls : am_ls G ls (M k).2.2.1 L) (hw : am_world G S H) (hS : va_S (am_A G) s.heap H locs) (hc0 : c0 ≤ S.2.2.1) (hs0 : s0 ≤ S.2.2.2) :
    W p l e R s m args below meth c H locs (S.2.2.1 - c0) (S.2.2.2 - s0) (vx_MQ below (am_Qc G rF) (am_XC G rF) args s (rF.2.2.2.1 - c0) (rF.2.2.2.2 - s0) (am_A G)) (F0 m pc ls (st.map (am_v G))) := by
  obtain ⟨hx, hb, hml, hown, hgw, henv, hnm⟩ := C
  obtain ⟨hd, hln, hc2⟩ := am_chk_sp hchk
  obtain ⟨op, len, a, b, w, cst⟩ := i
  dsimp only at hd hln hc2
  cases op <;> first | (exact absurd (show (none : Option am_R) = some rF from he) (by simp)) | skip
  case ireturn =>
    have hl1 : len = 1 := by simpa [am_sws, am_len] using hln
    subst hl1
    obtain ⟨v, ty, rfl, hty, hnar, rfl⟩ := am_end_i he
    rw [hty] at hr
    exact vx_ret (W.zret hx hb hr hnar (fun t ht _ => ⟨⟨some (.int v), rfl, rfl, by rw [ht]; exact hw⟩, hS.F ht⟩) hS.2.2 hd hlocks)
  case lreturn =>
    have hl1 : len = 1 := by simpa [am_sws, am_len] using hln
    subst hl1
    obtain ⟨v, rfl, hty, rfl⟩ := am_end_l he
    rw [hty] at hr
    exact vx_ret (W.lret hx hb hr (fun t ht _ => ⟨⟨some (.long v), rfl, rfl, by rw [ht]; exact hw⟩, hS.F ht⟩) hS.2.2 hd hlocks)
  case return_ =>
    have hl1 : len = 1 := by simpa [am_sws, am_len] using hln
    subst hl1
    obtain ⟨rfl, hty, rfl⟩ := am_end_v he
    rw [hty] at hr
    exact vx_ret (W.vret hx hb hr (fun t ht _ => ⟨⟨none, rfl, rfl, by rw [ht]; exact hw⟩, hS.F ht⟩) hS.2.2 hd hlocks)
  case new x =>
      have hl1 : len = 3 := by simpa [am_sws, am_len] using hln
      subst hl1
      obtain ⟨rfl, ha, rfl⟩ := am_end_n he
      have ha11 : ¬ a < 11 := by rcases ha with rfl | rfl | rfl <;> decide
      simp only [am_chk2, if_neg ha11, Bool.and_eq_true, decide_eq_true_eq] at hc2
      obtain ⟨⟨⟨⟨⟨⟨-, hwd⟩, hth⟩, d3⟩, d4⟩, d7⟩, hemp⟩ := hc2
      obtain ⟨hat, hot, hfit, hini⟩ := am_thr_ok _ hth
      have hno : c.exceptionTable.toList = [] := by
        rw [htab]
        unfold am_hh
        rw [List.isEmpty_iff.mp hemp]
        rfl
      dsimp only at hat hot hfit hini
      refine vx_throw0 (names := am_names) (A := am_A G) hx hb hl hown hfit am_names_fit (hgw _ (am_word_gw hwd rfl)) (hgw _ hini) (fun w9 h9 => (hat w9 h9).elim (fun h => hgw _ h) (fun h => va_Nw.use ?_ (henv.2.2.2.2.2.1 _ h))) (fun w9 h9 => ?_) henv.2.1 henv.2.2.1 hS (hls.1.trans hml.symm) hd d3 d4 d7 (fun y hy => by rw [hno] at hy; cases hy)
        (by show 2 + 3 < R.frames; omega) (by show 0 + (13 * (2 + 1) + 42) ≤ R.locals; omega) ?_ ?_ hlocks (fun t hal hz hk => ⟨rfl, ⟨fun k9 q9 hq => ?_, hw.2⟩, ?_, fun q hq1 hq2 => ?_⟩) hS.2.2 ?_ ?_
      · have hk9 : am_nwK w9 = true := (List.mem_filter.mp h).2
        cases w9 <;> first | (exact absurd (show false = true from hk9) (by decide)) | rfl
      · rcases List.mem_cons.mp h9 with rfl | h9
        · rfl
        · rcases List.mem_cons.mp h9 with rfl | h9
          · rfl
          · exact hot w9 h9
      · have h1 : S.2.2.1 + 1 ≤ c0 + R.cells := hRc
        omega
      · have h1 : S.2.2.2 + 6 ≤ s0 + R.slots := hRs
        omega
      · have hv := hw.1 k9 q9 hq
        exact hv.kept (hk _ hv.lt)
      · exact Nat.le_trans hS.1 hz
      · rw [hk q (Nat.lt_of_lt_of_le hq1 hS.1)]
        exact hS.2.1 q hq1 hq2
      · show S.2.2.1 - c0 + 1 ≤ S.2.2.1 + 1 - c0
        omega
      · show S.2.2.2 - s0 + 6 ≤ S.2.2.2 + 6 - s0
        omega
/-- an exception that this method does not catch -/
theorem am_kout (hlocks : meth.locks = false) (htab : c.exceptionTable.toList = tableOf (am_hh M k)) {c0 s0 : Nat} {rF : am_R} {E : String} {ce : Cell} {q9 : Addr} {rest : List Value} {S : am_S} (hh : (M k).2.2.2.2 = []) (hrF : rF = (.inr E, S)) (hw : am_world G S H) (hS : va_S (am_A G) s.heap H locs)
    (hce : H[q9]? = some ce) (hcv : ce.vm = .none) (hcl : s.vm.findClass E = some ce.cls) :
    vx_W p l e R s m args below meth c H locs (S.2.2.1 - c0) (S.2.2.2 - s0) (vx_MQ below (am_Qc G rF) (am_XC G rF) args s (rF.2.2.2.1 - c0) (rF.2.2.2.2 - s0) (am_A G)) (F0 m pc ls rest) q9 := by
  subst hrF
  have hno : c.exceptionTable.toList = [] := by
    rw [htab]
    unfold am_hh
    rw [hh]
    rfl
  exact vx_out (E := E) (fun y hy => by rw [hno] at hy; cases hy) hlocks hce hcv hcl (fun t ht _ => ⟨rfl, by rw [ht]; exact hw, hS.F ht⟩) hS.2.2 (Nat.le_refl _) (Nat.le_refl _)
/-- an exception that this method catches -/
theorem am_kcat (C : am_ctx M G p s m args meth c k) (hhok : am_hok M k) (hlocks : meth.locks = false) (hr : meth.sig.returnType = (M k).2.2.2.1) (htab : c.exceptionTable.toList = tableOf (am_hh M k)) {c0 s0 : Nat} {rF : am_R} {E : String} {ce : Cell} {q9 : Addr} {x : Int32} {L : am_L} {rest : List Value} {S : am_S}
    (hf : am_find (M k).2.2.2.2 pc E = some x) (hrF : rF = (.inl (some (.int x)), S)) (hls : am_ls G ls (M k).2.2.1 L) (hw : am_world G S H) (hS : va_S (am_A G) s.heap H locs)
    (hce : H[q9]? = some ce) (hcv : ce.vm = .none) (hcl : s.vm.findClass E = some ce.cls) :
    vx_W p l e R s m args below meth c H locs (S.2.2.1 - c0) (S.2.2.2 - s0) (vx_MQ below (am_Qc G rF) (am_XC G rF) args s (rF.2.2.2.1 - c0) (rF.2.2.2.2 - s0) (am_A G)) (F0 m pc ls rest) q9 := by
  subst hrF
  obtain ⟨hx, hb, hml, hown, hgw, henv, hnm⟩ := C
  obtain ⟨pre, h, suf, hsp, hcov, hE, hnum, hpre⟩ := am_find_split hf
  have hin : h ∈ (M k).2.2.2.2 := by rw [hsp]; simp
  obtain ⟨⟨e1, he1, hce1⟩, hct, hlk, hca, hri, n, q, hnn, hast, hd2, hd3⟩ := hhok h hin
  rw [hri] at hr
  intro T hT X
  have hpl : e.platform.magicAccessors = ({} : Platform).magicAccessors := by rw [X.admits.platform]
  have hnw := va_Nw.use (A := args) rfl (henv.2.2.2.2.2.1 _ hca)
  obtain ⟨c3, c4, hc3, hc4, hasg⟩ := Cond.castable_spec hnw
  obtain ⟨c5, hc5, hcl5⟩ := Cond.classLink_spec hown (hgw _ hlk) e.platform hpl
  rw [hE] at hc3 hc4 hc5
  cases Option.some.inj (hc3.symm.trans hcl)
  cases Option.some.inj (hc4.symm.trans hc5)
  have hsplit : c.exceptionTable.toList = (pre.map fun y => (⟨y.1, y.2.1, y.2.2.1, y.2.2.2.1⟩ : ExceptionTableEntry)) ++ ⟨h.1, h.2.1, h.2.2.1, h.2.2.2.1⟩ :: (suf.map fun y => (⟨y.1, y.2.1, y.2.2.1, y.2.2.2.1⟩ : ExceptionTableEntry)) := by
    rw [htab]
    unfold am_hh tableOf
    rw [hsp, List.map_map, List.map_append, List.map_cons]
    rfl
  obtain ⟨vm', X', st⟩ := am_caught X (a := q9) (g := F0 m pc ls rest) rfl (cell := ce) (by rw [hT]; exact hce) (fun k9 h9 => by rw [hcv] at h9; cases h9) (by obtain ⟨k9, h9, -⟩ := Vm.findClass_spec hcl; exact ⟨k9, h9⟩) _ _ _ hsplit
    (fun y hy => by
      obtain ⟨z, hz, rfl⟩ := List.mem_map.mp hy
      by_cases hcz : z.1 ≤ pc ∧ pc < z.2.1
      · have hzin : z ∈ (M k).2.2.2.2 := by rw [hsp]; simp [hz]
        obtain ⟨⟨e2, he2, hce2⟩, hzt, hzl, -⟩ := hhok z hzin
        have hne : e1 ≠ e2 := fun h9 => hpre z hz ⟨hcz.1, hcz.2, by rw [hce2, ← h9, ← hce1, hE]⟩
        obtain ⟨c6, hc6, hcl6⟩ := Cond.classLink_spec hown (hgw _ hzl) e.platform hpl
        obtain ⟨a8, b8, h1, h2, h3⟩ := henv.2.2.2.2.2.2.2.2 e1 e2 he1 he2 hne
        rw [← hce1, hE] at h1
        rw [← hce2] at h2
        cases Option.some.inj (h1.symm.trans hcl)
        cases Option.some.inj (h2.symm.trans hc6)
        exact Or.inr ⟨by simp [covers, hcz.1, hcz.2], hzt, _, hcl6, h3⟩
      · refine Or.inl ⟨rfl, ?_⟩
        simp only [covers, Bool.and_eq_false_iff, decide_eq_false_iff_not]
        by_cases h9 : z.1 ≤ pc
        · exact Or.inr fun h10 => hcz ⟨h9, h10⟩
        · exact Or.inl h9)
    (Or.inr ⟨by simp [covers, hcov.1, hcov.2], hct, _, hcl5, hasg⟩)
  have hend : ∀ ls' : Array Slot, W p l e R s m args below meth c H locs (S.2.2.1 - c0) (S.2.2.2 - s0) (vx_MQ below (am_Qc G (.inl (some (.int x)), S)) (am_XC G (.inl (some (.int x)), S)) args s (S.2.2.1 - c0) (S.2.2.2 - s0) (am_A G)) (F0 m q ls' []) := by
    intro ls'
    refine lv_iconst hx hb hd2 (hnn.trans hnum) ?_
    exact vx_ret (W.zret hx hb hr rfl (fun t ht _ => ⟨⟨some (.int x), rfl, rfl, by rw [ht]; exact hw⟩, hS.F ht⟩) hS.2.2 hd3 hlocks)
  have hgo : W p l e R s m args below meth c H locs (S.2.2.1 - c0) (S.2.2.2 - s0) (vx_MQ below (am_Qc G (.inl (some (.int x)), S)) (am_XC G (.inl (some (.int x)), S)) args s (S.2.2.1 - c0) (S.2.2.2 - s0) (am_A G)) (F0 m h.2.2.1 ls [.ref q9]) := by
    rcases hast with ⟨j, hdj, hq, hj⟩ | ⟨j, hdj, hq, hj⟩
    · subst hq
      exact lv_astore_n hx hb hdj rfl (am_ls_has hls) hj rfl (fun ls' _ => hend ls')
    · subst hq
      exact lv_astore hx hb hdj (am_ls_has hls) hj rfl (fun ls' _ => hend ls')
  obtain ⟨t, a1, b1⟩ := hgo (T.setVm vm') hT X'
  exact ⟨t, st t a1, b1⟩
end AMS1
set_option maxHeartbeats 1000000 in
theorem am_sound (hl : l.stackTraces = false) (hP : ∀ k pc i, P k pc = some i → am_chk M k pc i = true ∧ am_kchk kd i ∧ (am_isCall i.1 = true → i.2.2.1 ≠ 99999 → am_mok M kd i.2.2.1)) (hH : ∀ k, am_hok M k) :
    ∀ (d j : Nat) (as : List Value) (S : am_S) (r : am_R), am_mok M kd j → am_ev P M (am_X G) d j as S r →
      vx_Met l (M j).1 (am_wsM M j) (am_room d S r) (am_Pc G as S) (am_Qc G r) (am_XC G r) (r.2.2.2.1 - S.2.2.1) (r.2.2.2.2 - S.2.2.2) (am_A G) := by
  intro d
  induction d with
  | zero => intro j as S r _ h; exact absurd h (by simp [am_ev])
  | succ d ih =>
    intro j as S r hm h
    have hle : am_le S r.2 := am_ev_le h
    simp only [am_ev] at h
    obtain ⟨hfl, n, hgo⟩ := h
    have body : ∀ p e s m args below meth c s₁, BodyLoose p l (M j).1 (headSpec (am_wsM M j) (am_room (d + 1) S r)) (M j).2.1 (M j).2.2.1 (M j).2.2.2.1 e s m args below meth c s₁ → c.maxLocals = (M j).2.2.1 → c.exceptionTable.toList = tableOf (am_hh M j) → am_Pc G as S args s →
        W p l e (headSpec (am_wsM M j) (am_room (d + 1) S r)).room s m args below meth c s.heap [] 0 0 (vx_MQ below (am_Qc G r) (am_XC G r) args s (r.2.2.2.1 - S.2.2.1) (r.2.2.2.2 - S.2.2.2) (am_A G)) (entryFrame m args (M j).2.2.1) := by
      intro p e s m args below meth c s₁ B hml htab hPc
      obtain ⟨rfl, hw, henv, hsz, hn⟩ := hPc
      have hts := atoms_spec (ws := am_wsM M j) B.pre
      have C : am_ctx M G p s m (as.map (am_v G)).toArray meth c j := ⟨B.exec, B.bytes, hml, findClass_of_methodNamed B.named, fun w hw9 => hts w (List.mem_cons_of_mem _ hw9), henv, (name_of_methodNamed B.named B.method).1⟩
      rw [lg_entry_eq]
      unfold am_le at hle
      refine am_eqW (n1 := S.2.2.1 - S.2.2.1) (m1 := S.2.2.2 - S.2.2.2) (Nat.sub_self _) (Nat.sub_self _) ?_
      refine am_go_ok (R := (headSpec (am_wsM M j) (am_room (d + 1) S r)).room) hP ih C (rF := r) (by show 17 + d ≤ 16 + (d + 1); omega) (by show 460 + 60 * d ≤ 400 + 60 * (d + 1); omega) (by show r.2.2.2.1 ≤ S.2.2.1 + (r.2.2.2.1 - S.2.2.1); omega) (by show r.2.2.2.2 ≤ S.2.2.2 + (r.2.2.2.2 - S.2.2.2); omega)
        (fun pc i L st S9 H locs ls hi he hl9 hw9 hS9 hc9 hs9 => am_kend hl C B.notSynchronized B.returns htab (by show 17 ≤ 16 + (d + 1); omega) (by show 460 ≤ 400 + 60 * (d + 1); omega) (by show r.2.2.2.1 ≤ S.2.2.1 + (r.2.2.2.1 - S.2.2.1); omega) (by show r.2.2.2.2 ≤ S.2.2.2 + (r.2.2.2.2 - S.2.2.2); omega) (hP _ _ _ hi).1 he hl9 hw9 hS9 hc9 hs9)
        (fun E ce q9 pc rest S9 H locs ls hh hrF hw9 hS9 hce hcv hcl => am_kout B.notSynchronized htab hh hrF hw9 hS9 hce hcv hcl)
        (fun E ce q9 pc x L rest S9 H locs ls hf hrF hl9 hw9 hS9 hce hcv hcl => am_kcat C (hH j) B.notSynchronized B.returns htab hf hrF hl9 hw9 hS9 hce hcv hcl)
        n 0 _ [] S hgo s.heap [] _ (am_entry_ls G as hfl) hw va_S.rf (Nat.le_refl _) (Nat.le_refl _) hn (fun e9 => by have h9 := hsz e9; omega)
    by_cases hh : (M j).2.2.2.2 = []
    · refine am_ofW (cc := (M j).2.1) (maxL := (M j).2.2.1) (ret := (M j).2.2.2.1) hm.2.2.2.1 (by unfold am_wsM am_cw; rw [if_pos hh]; exact List.mem_cons_self) ?_
      intro p e s m args below meth c s₁ B hml htab hPc
      refine body p e s m args below meth c s₁ B hml ?_ hPc
      have e1 : am_hh M j = [] := by unfold am_hh; rw [hh]; rfl
      rw [e1]
      cases hcs : c.exceptionTable.toList with
      | nil => rfl
      | cons a9 t9 => exact absurd (htab a9 (by rw [hcs]; exact List.mem_cons_self)) (fun h => h)
    · refine am_ofWH (cc := (M j).2.1) (maxL := (M j).2.2.1) (ret := (M j).2.2.2.1) (hh := am_hh M j) hm.2.2.2.1 (by unfold am_wsM am_cw; rw [if_neg hh]; exact List.mem_cons_self) ?_
      intro p e s m args below meth c s₁ B hml hPc
      refine body p e s m args below meth c s₁ B hml ?_ hPc
      have hts := atoms_spec (ws := am_wsM M j) B.pre
      exact vx_table (x := (M j).1) B (hts (Cond.codeWith (M j).1 (M j).2.1 (M j).2.2.1 (M j).2.2.2.1 (am_hh M j)) (by unfold am_wsM am_cw; rw [if_neg hh]; exact List.mem_cons_self))
end AMS
end
section
/-! every instruction of the program is looked up in the tables; every callee has its words -/
theorem am_chkF_get {k : Nat} : ∀ (l : List (Option am_I)) (p0 j : Nat) (i : am_I), am_chkF k p0 l = true → l[j]? = some (some i) → am_chk am_M1 k (p0 + j) i = true := by
  intro l
  induction l with
  | nil => intro p0 j i _ h; simp at h
  | cons a t ih =>
    intro p0 j i hc h
    cases j with
    | zero =>
      have e : a = some i := Option.some.inj h
      subst e
      simp only [am_chkF, Bool.and_eq_true] at hc
      exact hc.1
    | succ j =>
      have h2 : t[j]? = some (some i) := h
      have hc2 : am_chkF k (p0 + 1) t = true := by
        cases a with
        | none => exact hc
        | some x => simp only [am_chkF, Bool.and_eq_true] at hc; exact hc.2
      have h3 := ih (p0 + 1) j i hc2 h2
      rw [show p0 + (j + 1) = p0 + 1 + j by omega]
      exact h3
theorem am_chk_law {pc : Nat} {i : am_I} (h : am_q176[pc]? = some (some i)) : am_chk am_M1 176 pc i = true := by
  have hlt : pc < am_q176.length := (List.getElem?_eq_some_iff.mp h).1
  have hlen : am_q176.length = 860 := by decide +kernel
  have key : ∀ a : Nat, am_chkF 176 a ((am_q176.drop a).take 50) = true → a ≤ pc → pc < a + 50 → am_chk am_M1 176 pc i = true := by
    intro a hc h1 h2
    have h3 : ((am_q176.drop a).take 50)[pc - a]? = some (some i) := by
      rw [List.getElem?_take, if_pos (by omega), List.getElem?_drop, show a + (pc - a) = pc by omega]
      exact h
    have h4 := am_chkF_get _ a (pc - a) i hc h3
    rw [show a + (pc - a) = pc by omega] at h4
    exact h4
  by_cases h0 : pc < 50
  · exact key 0 am_ck176_0 (by omega) (by omega)
  by_cases h1 : pc < 100
  · exact key 50 am_ck176_1 (by omega) (by omega)
  by_cases h2 : pc < 150
  · exact key 100 am_ck176_2 (by omega) (by omega)
  by_cases h3 : pc < 200
  · exact key 150 am_ck176_3 (by omega) (by omega)
  by_cases h4 : pc < 250
  · exact key 200 am_ck176_4 (by omega) (by omega)
  by_cases h5 : pc < 300
  · exact key 250 am_ck176_5 (by omega) (by omega)
  by_cases h6 : pc < 350
  · exact key 300 am_ck176_6 (by omega) (by omega)
  by_cases h7 : pc < 400
  · exact key 350 am_ck176_7 (by omega) (by omega)
  by_cases h8 : pc < 450
  · exact key 400 am_ck176_8 (by omega) (by omega)
  by_cases h9 : pc < 500
  · exact key 450 am_ck176_9 (by omega) (by omega)
  by_cases h10 : pc < 550
  · exact key 500 am_ck176_10 (by omega) (by omega)
  by_cases h11 : pc < 600
  · exact key 550 am_ck176_11 (by omega) (by omega)
  by_cases h12 : pc < 650
  · exact key 600 am_ck176_12 (by omega) (by omega)
  by_cases h13 : pc < 700
  · exact key 650 am_ck176_13 (by omega) (by omega)
  by_cases h14 : pc < 750
  · exact key 700 am_ck176_14 (by omega) (by omega)
  by_cases h15 : pc < 800
  · exact key 750 am_ck176_15 (by omega) (by omega)
  by_cases h16 : pc < 850
  · exact key 800 am_ck176_16 (by omega) (by omega)
  by_cases h17 : pc < 900
  · exact key 850 am_ck176_17 (by omega) (by omega)
  omega
theorem am_chkP {k : Nat} {l : List (Option am_I)} (h : am_qs[k]? = some l) {pc : Nat} {i : am_I} (hi : l[pc]? = some (some i)) : am_chk am_M1 k pc i = true := by
  have z : ∀ {k : Nat} {l : List (Option am_I)}, am_chkF k 0 l = true → l[pc]? = some (some i) → am_chk am_M1 k pc i = true := fun hc h9 => by
    have h1 := am_chkF_get _ 0 pc i hc h9
    rwa [Nat.zero_add] at h1
  match k, h with
  | 0, h => cases h; exact z am_ck0 hi
  | 1, h => cases h; exact z am_ck1 hi
  | 2, h => cases h; exact z am_ck2 hi
  | 3, h => cases h; exact z am_ck3 hi
  | 4, h => cases h; exact z am_ck4 hi
  | 5, h => cases h; exact z am_ck5 hi
  | 6, h => cases h; exact z am_ck6 hi
  | 7, h => cases h; exact z am_ck7 hi
  | 8, h => cases h; exact z am_ck8 hi
  | 9, h => cases h; exact z am_ck9 hi
  | 10, h => cases h; exact z am_ck10 hi
  | 11, h => cases h; exact z am_ck11 hi
  | 12, h => cases h; exact z am_ck12 hi
  | 13, h => cases h; exact z am_ck13 hi
  | 14, h => cases h; exact z am_ck14 hi
  | 15, h => cases h; exact z am_ck15 hi
  | 16, h => cases h; exact z am_ck16 hi
  | 17, h => cases h; exact z am_ck17 hi
  | 18, h => cases h; exact z am_ck18 hi
  | 19, h => cases h; exact z am_ck19 hi
  | 20, h => cases h; exact z am_ck20 hi
  | 21, h => cases h; exact z am_ck21 hi
  | 22, h => cases h; exact z am_ck22 hi
  | 23, h => cases h; exact z am_ck23 hi
  | 24, h => cases h; exact z am_ck24 hi
  | 25, h => cases h; exact z am_ck25 hi
  | 26, h => cases h; exact z am_ck26 hi
  | 27, h => cases h; exact z am_ck27 hi
  | 28, h => cases h; exact z am_ck28 hi
  | 29, h => cases h; exact z am_ck29 hi
  | 30, h => cases h; exact z am_ck30 hi
  | 31, h => cases h; exact z am_ck31 hi
  | 32, h => cases h; exact z am_ck32 hi
  | 33, h => cases h; exact z am_ck33 hi
  | 34, h => cases h; exact z am_ck34 hi
  | 35, h => cases h; exact z am_ck35 hi
  | 36, h => cases h; exact z am_ck36 hi
  | 37, h => cases h; exact z am_ck37 hi
  | 38, h => cases h; exact z am_ck38 hi
  | 39, h => cases h; exact z am_ck39 hi
  | 40, h => cases h; exact z am_ck40 hi
  | 41, h => cases h; exact z am_ck41 hi
  | 42, h => cases h; exact z am_ck42 hi
  | 43, h => cases h; exact z am_ck43 hi
  | 44, h => cases h; exact z am_ck44 hi
  | 45, h => cases h; exact z am_ck45 hi
  | 46, h => cases h; exact z am_ck46 hi
  | 47, h => cases h; exact z am_ck47 hi
  | 48, h => cases h; exact z am_ck48 hi
  | 49, h => cases h; exact z am_ck49 hi
  | 50, h => cases h; exact z am_ck50 hi
  | 51, h => cases h; exact z am_ck51 hi
  | 52, h => cases h; exact z am_ck52 hi
  | 53, h => cases h; exact z am_ck53 hi
  | 54, h => cases h; exact z am_ck54 hi
  | 55, h => cases h; exact z am_ck55 hi
  | 56, h => cases h; exact z am_ck56 hi
  | 57, h => cases h; exact z am_ck57 hi
  | 58, h => cases h; exact z am_ck58 hi
  | 59, h => cases h; exact z am_ck59 hi
  | 60, h => cases h; exact z am_ck60 hi
  | 61, h => cases h; exact z am_ck61 hi
  | 62, h => cases h; exact z am_ck62 hi
  | 63, h => cases h; exact z am_ck63 hi
  | 64, h => cases h; exact z am_ck64 hi
  | 65, h => cases h; exact z am_ck65 hi
  | 66, h => cases h; exact z am_ck66 hi
  | 67, h => cases h; exact z am_ck67 hi
  | 68, h => cases h; exact z am_ck68 hi
  | 69, h => cases h; exact z am_ck69 hi
  | 70, h => cases h; exact z am_ck70 hi
  | 71, h => cases h; exact z am_ck71 hi
  | 72, h => cases h; exact z am_ck72 hi
  | 73, h => cases h; exact z am_ck73 hi
  | 74, h => cases h; exact z am_ck74 hi
  | 75, h => cases h; exact z am_ck75 hi
  | 76, h => cases h; exact z am_ck76 hi
  | 77, h => cases h; exact z am_ck77 hi
  | 78, h => cases h; exact z am_ck78 hi
  | 79, h => cases h; exact z am_ck79 hi
  | 80, h => cases h; exact z am_ck80 hi
  | 81, h => cases h; exact z am_ck81 hi
  | 82, h => cases h; exact z am_ck82 hi
  | 83, h => cases h; exact z am_ck83 hi
  | 84, h => cases h; exact z am_ck84 hi
  | 85, h => cases h; exact z am_ck85 hi
  | 86, h => cases h; exact z am_ck86 hi
  | 87, h => cases h; exact z am_ck87 hi
  | 88, h => cases h; exact z am_ck88 hi
  | 89, h => cases h; exact z am_ck89 hi
  | 90, h => cases h; exact z am_ck90 hi
  | 91, h => cases h; exact z am_ck91 hi
  | 92, h => cases h; exact z am_ck92 hi
  | 93, h => cases h; exact z am_ck93 hi
  | 94, h => cases h; exact z am_ck94 hi
  | 95, h => cases h; exact z am_ck95 hi
  | 96, h => cases h; exact z am_ck96 hi
  | 97, h => cases h; exact z am_ck97 hi
  | 98, h => cases h; exact z am_ck98 hi
  | 99, h => cases h; exact z am_ck99 hi
  | 100, h => cases h; exact z am_ck100 hi
  | 101, h => cases h; exact z am_ck101 hi
  | 102, h => cases h; exact z am_ck102 hi
  | 103, h => cases h; exact z am_ck103 hi
  | 104, h => cases h; exact z am_ck104 hi
  | 105, h => cases h; exact z am_ck105 hi
  | 106, h => cases h; exact z am_ck106 hi
  | 107, h => cases h; exact z am_ck107 hi
  | 108, h => cases h; exact z am_ck108 hi
  | 109, h => cases h; exact z am_ck109 hi
  | 110, h => cases h; exact z am_ck110 hi
  | 111, h => cases h; exact z am_ck111 hi
  | 112, h => cases h; exact z am_ck112 hi
  | 113, h => cases h; exact z am_ck113 hi
  | 114, h => cases h; exact z am_ck114 hi
  | 115, h => cases h; exact z am_ck115 hi
  | 116, h => cases h; exact z am_ck116 hi
  | 117, h => cases h; exact z am_ck117 hi
  | 118, h => cases h; exact z am_ck118 hi
  | 119, h => cases h; exact z am_ck119 hi
  | 120, h => cases h; exact z am_ck120 hi
  | 121, h => cases h; exact z am_ck121 hi
  | 122, h => cases h; exact z am_ck122 hi
  | 123, h => cases h; exact z am_ck123 hi
  | 124, h => cases h; exact z am_ck124 hi
  | 125, h => cases h; exact z am_ck125 hi
  | 126, h => cases h; exact z am_ck126 hi
  | 127, h => cases h; exact z am_ck127 hi
  | 128, h => cases h; exact z am_ck128 hi
  | 129, h => cases h; exact z am_ck129 hi
  | 130, h => cases h; exact z am_ck130 hi
  | 131, h => cases h; exact z am_ck131 hi
  | 132, h => cases h; exact z am_ck132 hi
  | 133, h => cases h; exact z am_ck133 hi
  | 134, h => cases h; exact z am_ck134 hi
  | 135, h => cases h; exact z am_ck135 hi
  | 136, h => cases h; exact z am_ck136 hi
  | 137, h => cases h; exact z am_ck137 hi
  | 138, h => cases h; exact z am_ck138 hi
  | 139, h => cases h; exact z am_ck139 hi
  | 140, h => cases h; exact z am_ck140 hi
  | 141, h => cases h; exact z am_ck141 hi
  | 142, h => cases h; exact z am_ck142 hi
  | 143, h => cases h; exact z am_ck143 hi
  | 144, h => cases h; exact z am_ck144 hi
  | 145, h => cases h; exact z am_ck145 hi
  | 146, h => cases h; exact z am_ck146 hi
  | 147, h => cases h; exact z am_ck147 hi
  | 148, h => cases h; exact z am_ck148 hi
  | 149, h => cases h; exact z am_ck149 hi
  | 150, h => cases h; exact z am_ck150 hi
  | 151, h => cases h; exact z am_ck151 hi
  | 152, h => cases h; exact z am_ck152 hi
  | 153, h => cases h; exact z am_ck153 hi
  | 154, h => cases h; exact z am_ck154 hi
  | 155, h => cases h; exact z am_ck155 hi
  | 156, h => cases h; exact z am_ck156 hi
  | 157, h => cases h; exact z am_ck157 hi
  | 158, h => cases h; exact z am_ck158 hi
  | 159, h => cases h; exact z am_ck159 hi
  | 160, h => cases h; exact z am_ck160 hi
  | 161, h => cases h; exact z am_ck161 hi
  | 162, h => cases h; exact z am_ck162 hi
  | 163, h => cases h; exact z am_ck163 hi
  | 164, h => cases h; exact z am_ck164 hi
  | 165, h => cases h; exact z am_ck165 hi
  | 166, h => cases h; exact z am_ck166 hi
  | 167, h => cases h; exact z am_ck167 hi
  | 168, h => cases h; exact z am_ck168 hi
  | 169, h => cases h; exact z am_ck169 hi
  | 170, h => cases h; exact z am_ck170 hi
  | 171, h => cases h; exact z am_ck171 hi
  | 172, h => cases h; exact z am_ck172 hi
  | 173, h => cases h; exact z am_ck173 hi
  | 174, h => cases h; exact z am_ck174 hi
  | 175, h => cases h; exact z am_ck175 hi
  | 176, h => cases h; exact am_chk_law hi
  | k + 177, h => exact absurd ((List.getElem?_eq_some_iff.mp h).1) (by rw [show am_qs.length = 177 by decide +kernel]; omega)
theorem am_mkall {k : Nat} (h : am_kd k < 3) : am_mok am_M1 am_kd k := by
  match k, h with
  | 0, _ => exact am_mchk_ok am_mk0
  | 1, _ => exact am_mchk_ok am_mk1
  | 2, _ => exact am_mchk_ok am_mk2
  | 3, _ => exact am_mchk_ok am_mk3
  | 4, _ => exact am_mchk_ok am_mk4
  | 5, _ => exact am_mchk_ok am_mk5
  | 6, _ => exact am_mchk_ok am_mk6
  | 7, _ => exact am_mchk_ok am_mk7
  | 8, _ => exact am_mchk_ok am_mk8
  | 9, _ => exact am_mchk_ok am_mk9
  | 10, _ => exact am_mchk_ok am_mk10
  | 11, _ => exact am_mchk_ok am_mk11
  | 12, _ => exact am_mchk_ok am_mk12
  | 13, _ => exact am_mchk_ok am_mk13
  | 14, _ => exact am_mchk_ok am_mk14
  | 15, _ => exact am_mchk_ok am_mk15
  | 16, _ => exact am_mchk_ok am_mk16
  | 17, _ => exact am_mchk_ok am_mk17
  | 18, _ => exact am_mchk_ok am_mk18
  | 19, _ => exact am_mchk_ok am_mk19
  | 20, _ => exact am_mchk_ok am_mk20
  | 21, _ => exact am_mchk_ok am_mk21
  | 22, _ => exact am_mchk_ok am_mk22
  | 23, _ => exact am_mchk_ok am_mk23
  | 24, _ => exact am_mchk_ok am_mk24
  | 25, _ => exact am_mchk_ok am_mk25
  | 26, _ => exact am_mchk_ok am_mk26
  | 27, _ => exact am_mchk_ok am_mk27
  | 28, _ => exact am_mchk_ok am_mk28
  | 29, _ => exact am_mchk_ok am_mk29
  | 30, _ => exact am_mchk_ok am_mk30
  | 31, _ => exact am_mchk_ok am_mk31
  | 32, _ => exact am_mchk_ok am_mk32
  | 33, _ => exact am_mchk_ok am_mk33
  | 34, _ => exact am_mchk_ok am_mk34
  | 35, _ => exact am_mchk_ok am_mk35
  | 36, _ => exact am_mchk_ok am_mk36
  | 37, _ => exact am_mchk_ok am_mk37
  | 38, _ => exact am_mchk_ok am_mk38
  | 39, _ => exact am_mchk_ok am_mk39
  | 40, _ => exact am_mchk_ok am_mk40
  | 41, _ => exact am_mchk_ok am_mk41
  | 42, _ => exact am_mchk_ok am_mk42
  | 43, _ => exact am_mchk_ok am_mk43
  | 44, _ => exact am_mchk_ok am_mk44
  | 45, _ => exact am_mchk_ok am_mk45
  | 46, _ => exact am_mchk_ok am_mk46
  | 47, _ => exact am_mchk_ok am_mk47
  | 48, _ => exact am_mchk_ok am_mk48
  | 49, _ => exact am_mchk_ok am_mk49
  | 50, _ => exact am_mchk_ok am_mk50
  | 51, _ => exact am_mchk_ok am_mk51
  | 52, _ => exact am_mchk_ok am_mk52
  | 53, _ => exact am_mchk_ok am_mk53
  | 54, _ => exact am_mchk_ok am_mk54
  | 55, _ => exact am_mchk_ok am_mk55
  | 56, _ => exact am_mchk_ok am_mk56
  | 57, _ => exact am_mchk_ok am_mk57
  | 58, _ => exact am_mchk_ok am_mk58
  | 59, _ => exact am_mchk_ok am_mk59
  | 60, _ => exact am_mchk_ok am_mk60
  | 61, _ => exact am_mchk_ok am_mk61
  | 62, _ => exact am_mchk_ok am_mk62
  | 63, _ => exact am_mchk_ok am_mk63
  | 64, _ => exact am_mchk_ok am_mk64
  | 65, _ => exact am_mchk_ok am_mk65
  | 66, _ => exact am_mchk_ok am_mk66
  | 67, _ => exact am_mchk_ok am_mk67
  | 68, _ => exact am_mchk_ok am_mk68
  | 69, _ => exact am_mchk_ok am_mk69
  | 70, _ => exact am_mchk_ok am_mk70
  | 71, _ => exact am_mchk_ok am_mk71
  | 72, _ => exact am_mchk_ok am_mk72
  | 73, _ => exact am_mchk_ok am_mk73
  | 74, _ => exact am_mchk_ok am_mk74
  | 75, _ => exact am_mchk_ok am_mk75
  | 76, _ => exact am_mchk_ok am_mk76
  | 77, _ => exact am_mchk_ok am_mk77
  | 78, _ => exact am_mchk_ok am_mk78
  | 79, _ => exact am_mchk_ok am_mk79
  | 80, _ => exact am_mchk_ok am_mk80
  | 81, _ => exact am_mchk_ok am_mk81
  | 82, _ => exact am_mchk_ok am_mk82
  | 83, _ => exact am_mchk_ok am_mk83
  | 84, _ => exact am_mchk_ok am_mk84
  | 85, _ => exact am_mchk_ok am_mk85
  | 86, _ => exact am_mchk_ok am_mk86
  | 87, _ => exact am_mchk_ok am_mk87
  | 88, _ => exact am_mchk_ok am_mk88
  | 89, _ => exact am_mchk_ok am_mk89
  | 90, _ => exact am_mchk_ok am_mk90
  | 91, _ => exact am_mchk_ok am_mk91
  | 92, _ => exact am_mchk_ok am_mk92
  | 93, _ => exact am_mchk_ok am_mk93
  | 94, _ => exact am_mchk_ok am_mk94
  | 95, _ => exact am_mchk_ok am_mk95
  | 96, _ => exact am_mchk_ok am_mk96
  | 97, _ => exact am_mchk_ok am_mk97
  | 98, _ => exact am_mchk_ok am_mk98
  | 99, _ => exact am_mchk_ok am_mk99
  | 100, _ => exact am_mchk_ok am_mk100
  | 101, _ => exact am_mchk_ok am_mk101
  | 102, _ => exact am_mchk_ok am_mk102
  | 103, _ => exact am_mchk_ok am_mk103
  | 104, _ => exact am_mchk_ok am_mk104
  | 105, _ => exact am_mchk_ok am_mk105
  | 106, _ => exact am_mchk_ok am_mk106
  | 107, _ => exact am_mchk_ok am_mk107
  | 108, _ => exact am_mchk_ok am_mk108
  | 109, _ => exact am_mchk_ok am_mk109
  | 110, _ => exact am_mchk_ok am_mk110
  | 111, _ => exact am_mchk_ok am_mk111
  | 112, _ => exact am_mchk_ok am_mk112
  | 113, _ => exact am_mchk_ok am_mk113
  | 114, _ => exact am_mchk_ok am_mk114
  | 115, _ => exact am_mchk_ok am_mk115
  | 116, _ => exact am_mchk_ok am_mk116
  | 117, _ => exact am_mchk_ok am_mk117
  | 118, _ => exact am_mchk_ok am_mk118
  | 119, _ => exact am_mchk_ok am_mk119
  | 120, _ => exact am_mchk_ok am_mk120
  | 121, _ => exact am_mchk_ok am_mk121
  | 122, _ => exact am_mchk_ok am_mk122
  | 123, _ => exact am_mchk_ok am_mk123
  | 124, _ => exact am_mchk_ok am_mk124
  | 125, _ => exact am_mchk_ok am_mk125
  | 126, _ => exact am_mchk_ok am_mk126
  | 127, _ => exact am_mchk_ok am_mk127
  | 128, _ => exact am_mchk_ok am_mk128
  | 129, _ => exact am_mchk_ok am_mk129
  | 130, _ => exact am_mchk_ok am_mk130
  | 131, _ => exact am_mchk_ok am_mk131
  | 132, _ => exact am_mchk_ok am_mk132
  | 133, _ => exact am_mchk_ok am_mk133
  | 134, _ => exact am_mchk_ok am_mk134
  | 135, _ => exact am_mchk_ok am_mk135
  | 136, _ => exact am_mchk_ok am_mk136
  | 137, _ => exact am_mchk_ok am_mk137
  | 138, _ => exact am_mchk_ok am_mk138
  | 139, _ => exact am_mchk_ok am_mk139
  | 140, _ => exact am_mchk_ok am_mk140
  | 141, _ => exact am_mchk_ok am_mk141
  | 142, _ => exact am_mchk_ok am_mk142
  | 143, _ => exact am_mchk_ok am_mk143
  | 144, _ => exact am_mchk_ok am_mk144
  | 145, _ => exact am_mchk_ok am_mk145
  | 146, _ => exact am_mchk_ok am_mk146
  | 147, _ => exact am_mchk_ok am_mk147
  | 148, _ => exact am_mchk_ok am_mk148
  | 149, _ => exact am_mchk_ok am_mk149
  | 150, _ => exact am_mchk_ok am_mk150
  | 151, _ => exact am_mchk_ok am_mk151
  | 152, _ => exact am_mchk_ok am_mk152
  | 153, _ => exact am_mchk_ok am_mk153
  | 154, _ => exact am_mchk_ok am_mk154
  | 155, _ => exact am_mchk_ok am_mk155
  | 156, _ => exact am_mchk_ok am_mk156
  | 157, _ => exact am_mchk_ok am_mk157
  | 158, _ => exact am_mchk_ok am_mk158
  | 159, _ => exact am_mchk_ok am_mk159
  | 160, _ => exact am_mchk_ok am_mk160
  | 161, _ => exact am_mchk_ok am_mk161
  | 162, _ => exact am_mchk_ok am_mk162
  | 163, _ => exact am_mchk_ok am_mk163
  | 164, _ => exact am_mchk_ok am_mk164
  | 165, _ => exact am_mchk_ok am_mk165
  | 166, _ => exact am_mchk_ok am_mk166
  | 167, _ => exact am_mchk_ok am_mk167
  | 168, _ => exact am_mchk_ok am_mk168
  | 169, _ => exact am_mchk_ok am_mk169
  | 170, _ => exact am_mchk_ok am_mk170
  | 171, _ => exact am_mchk_ok am_mk171
  | 172, _ => exact am_mchk_ok am_mk172
  | 173, _ => exact am_mchk_ok am_mk173
  | 174, _ => exact am_mchk_ok am_mk174
  | 175, _ => exact am_mchk_ok am_mk175
  | 176, h => exact absurd h (by decide)
  | k + 177, h => exact absurd h (by unfold am_kd; rw [List.getElem?_eq_none (by rw [show am_kds.length = 177 by decide +kernel]; omega)]; decide)
def am_kB (i : am_I) : Bool := match i.1 with
  | .invokevirtual _ => decide (am_kd i.2.2.1 = 0)
  | .invokestatic _ => decide (am_kd i.2.2.1 = 1)
  | .invokespecial _ => decide (i.2.2.1 = 99999) || decide (am_kd i.2.2.1 = 2)
  | _ => true
def am_kBL (l : List (Option am_I)) : Bool := l.all (fun o => match o with
  | some i => am_kB i
  | none => true)
set_option maxRecDepth 100000 in
theorem am_kBall : am_qs.all am_kBL = true := by decide +kernel
theorem am_Pok : ∀ k pc i, am_P k pc = some i → am_chk am_M1 k pc i = true ∧ am_kchk am_kd i ∧ (am_isCall i.1 = true → i.2.2.1 ≠ 99999 → am_mok am_M1 am_kd i.2.2.1) := by
  intro k pc i h
  unfold am_P at h
  split at h
  · rename_i l hl
    split at h
    · rename_i x hx
      subst h
      have hb : am_kB i = true := by
        have h1 := List.all_eq_true.mp am_kBall l (List.mem_of_getElem? hl)
        exact List.all_eq_true.mp h1 (some i) (List.mem_of_getElem? hx)
      have hk : am_kchk am_kd i := by
        refine ⟨fun x e => ?_, fun x e => ?_, fun x e e2 => ?_⟩
        · unfold am_kB at hb; rw [e] at hb; exact of_decide_eq_true hb
        · unfold am_kB at hb; rw [e] at hb; exact of_decide_eq_true hb
        · unfold am_kB at hb; rw [e] at hb
          simp only [Bool.or_eq_true, decide_eq_true_eq] at hb
          exact hb.resolve_left e2
      refine ⟨am_chkP hl hx, hk, fun hc hne => am_mkall ?_⟩
      obtain ⟨op, len, a, b, w, cst⟩ := i
      cases op <;> first | (exact absurd (show false = true from hc) (by decide)) | skip
      case invokevirtual x => rw [show am_kd a = 0 from hk.1 x rfl]; decide
      case invokespecial x => rw [show am_kd a = 2 from hk.2.2 x rfl hne]; decide
      case invokestatic x => rw [show am_kd a = 1 from hk.2.1 x rfl]; decide
    · cases h
  · cases h
end
section
/-! the handlers -/
def am_hB (k : Nat) (h : Nat × Nat × Nat × Nat × String × Int32) : Bool :=
  (decide (h.2.2.2.2.1 = am_exc 100) || decide (h.2.2.2.2.1 = am_exc 101) || decide (h.2.2.2.2.1 = am_exc 102)) && decide (h.2.2.2.1 ≠ 0) && decide (Cond.classLink (am_M1 k).1.cls h.2.2.2.1 h.2.2.2.2.1 ∈ am_gw) && decide (Cond.castable h.2.2.2.2.1 h.2.2.2.2.1 ∈ am_nw) && decide ((am_M1 k).2.2.2.1 = some .int) &&
  (match decode (am_M1 k).2.1 h.2.2.1 with
  | .ok (.astore_n j, 1) => decide ((j : Nat) < (am_M1 k).2.2.1) && (match decode (am_M1 k).2.1 (h.2.2.1 + 1) with
    | .ok (.iconst n, 1) => decide (Int32.ofInt n = h.2.2.2.2.2) && decide (decode (am_M1 k).2.1 (h.2.2.1 + 1 + 1) = .ok (.ireturn, 1))
    | _ => false)
  | .ok (.astore j, 2) => decide (j < (am_M1 k).2.2.1) && (match decode (am_M1 k).2.1 (h.2.2.1 + 2) with
    | .ok (.iconst n, 1) => decide (Int32.ofInt n = h.2.2.2.2.2) && decide (decode (am_M1 k).2.1 (h.2.2.1 + 2 + 1) = .ok (.ireturn, 1))
    | _ => false)
  | _ => false)
theorem am_hB_ok {k : Nat} (h : (am_M1 k).2.2.2.2.all (am_hB k) = true) : am_hok am_M1 k := by
  intro q hq
  have h1 := List.all_eq_true.mp h q hq
  unfold am_hB at h1
  simp only [Bool.and_eq_true, Bool.or_eq_true, decide_eq_true_eq] at h1
  obtain ⟨⟨⟨⟨⟨he, h2⟩, h3⟩, h4⟩, h5⟩, h6⟩ := h1
  refine ⟨?_, h2, h3, h4, h5, ?_⟩
  · rcases he with (he | he) | he
    · exact ⟨0, by decide, he⟩
    · exact ⟨1, by decide, he⟩
    · exact ⟨2, by decide, he⟩
  · split at h6
    · rename_i j hj
      simp only [Bool.and_eq_true, decide_eq_true_eq] at h6
      obtain ⟨hl, h6⟩ := h6
      split at h6
      · rename_i n hn
        simp only [Bool.and_eq_true, decide_eq_true_eq] at h6
        exact ⟨n, _, h6.1, Or.inl ⟨j, hj, rfl, hl⟩, hn, h6.2⟩
      · cases h6
    · rename_i j hj
      simp only [Bool.and_eq_true, decide_eq_true_eq] at h6
      obtain ⟨hl, h6⟩ := h6
      split at h6
      · rename_i n hn
        simp only [Bool.and_eq_true, decide_eq_true_eq] at h6
        exact ⟨n, _, h6.1, Or.inr ⟨j, hj, rfl, hl⟩, hn, h6.2⟩
      · cases h6
    · cases h6
theorem am_hk167 : (am_M1 167).2.2.2.2.all (am_hB 167) = true := by decide +kernel
theorem am_hk168 : (am_M1 168).2.2.2.2.all (am_hB 168) = true := by decide +kernel
theorem am_hk169 : (am_M1 169).2.2.2.2.all (am_hB 169) = true := by decide +kernel
theorem am_hk170 : (am_M1 170).2.2.2.2.all (am_hB 170) = true := by decide +kernel
theorem am_hk171 : (am_M1 171).2.2.2.2.all (am_hB 171) = true := by decide +kernel
theorem am_hk172 : (am_M1 172).2.2.2.2.all (am_hB 172) = true := by decide +kernel
theorem am_hk173 : (am_M1 173).2.2.2.2.all (am_hB 173) = true := by decide +kernel
theorem am_hk174 : (am_M1 174).2.2.2.2.all (am_hB 174) = true := by decide +kernel
theorem am_hk175 : (am_M1 175).2.2.2.2.all (am_hB 175) = true := by decide +kernel
set_option maxRecDepth 100000 in
theorem am_nohand : ∀ k, k < 177 → (k = 167 ∨ k = 168 ∨ k = 169 ∨ k = 170 ∨ k = 171 ∨ k = 172 ∨ k = 173 ∨ k = 174 ∨ k = 175) ∨ (am_M1 k).2.2.2.2 = [] := by decide +kernel
theorem am_Hok : ∀ k, am_hok am_M1 k := by
  intro k
  by_cases h167 : k = 167
  · subst h167; exact am_hB_ok am_hk167
  by_cases h168 : k = 168
  · subst h168; exact am_hB_ok am_hk168
  by_cases h169 : k = 169
  · subst h169; exact am_hB_ok am_hk169
  by_cases h170 : k = 170
  · subst h170; exact am_hB_ok am_hk170
  by_cases h171 : k = 171
  · subst h171; exact am_hB_ok am_hk171
  by_cases h172 : k = 172
  · subst h172; exact am_hB_ok am_hk172
  by_cases h173 : k = 173
  · subst h173; exact am_hB_ok am_hk173
  by_cases h174 : k = 174
  · subst h174; exact am_hB_ok am_hk174
  by_cases h175 : k = 175
  · subst h175; exact am_hB_ok am_hk175
  have hno : ∀ k : Nat, k ≠ 167 ∧ k ≠ 168 ∧ k ≠ 169 ∧ k ≠ 170 ∧ k ≠ 171 ∧ k ≠ 172 ∧ k ≠ 173 ∧ k ≠ 174 ∧ k ≠ 175 → (am_M1 k).2.2.2.2 = [] := by
    intro k hk
    by_cases hlt : k < 177
    · exact (am_nohand k hlt).resolve_left (by omega)
    · unfold am_M1
      rw [List.getElem?_eq_none (by rw [show am_ms.length = 177 by decide +kernel]; omega)]
      rfl
  intro q hq
  rw [hno k (by omega)] at hq
  cases hq
end
section
/-! the law's start, and the claim out of the small machine's run of the law -/
theorem am_nw_ot {w : Cond} (h : w ∈ am_nw) : w.onTables = true := by
  have hk9 : am_nwK w = true := (List.mem_filter.mp h).2
  cases w <;> first | (exact absurd (show false = true from hk9) (by decide)) | rfl
theorem am_ao1 : Cond.arrayOver (.object RX1) ∈ lw_tbl := by decide +kernel
theorem am_ao7 : Cond.arrayOver (.object RX7) ∈ lw_tbl := by decide +kernel
theorem am_ls1 : Cond.laysStatic Bundle.tN "UNASSIGNED_STACK" Bundle.steD ∈ lw_tbl := by decide +kernel
theorem am_ls2 : Cond.laysStatic Bundle.tN "SUPPRESSED_SENTINEL" Bundle.listD ∈ lw_tbl := by decide +kernel
theorem am_ls3 : Cond.laysStatic RX1 "SIGNATURE" "[I" ∈ lw_tbl := by decide +kernel
theorem am_it : Cond.initialized Bundle.tN ∈ lw_tbl := by decide +kernel
abbrev am_sgT : Term := .static RX1 "SIGNATURE" "[I"
theorem am_n1 : Cond.isRef (.static Bundle.tN "UNASSIGNED_STACK" Bundle.steD) ∈ flatC (Jvm.Cond.and given_1 narrow_1) := by decide +kernel
theorem am_n2 : Cond.isRef (.static Bundle.tN "SUPPRESSED_SENTINEL" Bundle.listD) ∈ flatC (Jvm.Cond.and given_1 narrow_1) := by decide +kernel
theorem am_n3 : Cond.arrayOf am_sgT .int ∈ flatC (Jvm.Cond.and given_1 narrow_1) ∧ Cond.eq (.length am_sgT) (.int 5) ∈ flatC (Jvm.Cond.and given_1 narrow_1) := ⟨by decide +kernel, by decide +kernel⟩
theorem am_n4 : ∀ j, j < 5 → Cond.eq (.elem am_sgT (.int (Int32.ofNat j))) (.int (am_sig j)) ∈ flatC (Jvm.Cond.and given_1 narrow_1) := by decide +kernel
theorem am_n5 : ∀ a, a < 3 → ∀ b, b < 3 → a ≠ b → Cond.not (.castable (am_exc (100 + a)) (am_exc (100 + b))) ∈ flatC (Jvm.Cond.and given_1 narrow_1) := by decide +kernel
theorem am_env0 {s : State} {b L : Nat} {xs : Nat → Int32} (hts : ∀ w ∈ lw_tbl, w.before #[Value.ref b] s = true) (hX : va_X b L xs s s.heap) (hbl : b < s.heap.size) (hgv : (Jvm.Cond.and given_1 narrow_1).before #[Value.ref b] s = true) :
    ∃ G : am_G, am_b0 G = s.heap.size ∧ G.2.2.2.1 = b ∧ am_X G = (L, xs) ∧ am_env G s := by
  have hgw : ∀ w ∈ am_gw, w.before #[Value.ref b] s = true := fun w hw => hts w (List.mem_filter.mp hw).1
  have hfl := flat_of_before _ hgv
  have hA : ∀ a : Nat, a < s.heap.size → ¬ (fun q : Nat => s.heap.size ≤ q) a := fun a ha h9 => absurd (show s.heap.size ≤ a from h9) (Nat.not_le.mpr ha)
  have h1 : ∀ ci : Nat, ∃ (cC : ClassId) (iS : Nat → Nat), ∀ q, vwCl[ci]? = some q → u_Kn s q.1 q.2.1 q.2.2 cC iS := by
    intro ci
    cases hq : vwCl[ci]? with
    | none => exact ⟨default, fun _ => 0, fun q h9 => by cases h9⟩
    | some q =>
      obtain ⟨cC, iS, h⟩ := u_known hgw (am_cls hq).1 (hgw _ (am_ini hq).2)
      exact ⟨cC, iS, fun q' e => by cases e; exact h⟩
  have prim : ∀ ty : FieldType, (∀ C9, ty ≠ .object C9) → (Cond.arrayClass ty).before #[Value.ref b] s = true → ∃ cA : ClassId, ArrOfT s cA ty ∧ va_RA s cA ty := by
    intro ty hno h9
    obtain ⟨cA, kA, comp, f1, f2, f3⟩ := Cond.arrayClass_spec h9
    refine ⟨cA, fun N z => ⟨(fun k h => by cases h), kA, f2, comp, f3⟩, ?_⟩
    cases ty with
    | object C9 => exact absurd rfl (hno C9)
    | _ => exact f1
  have obj : ∀ C9 : String, (Cond.arrayOver (.object C9)).before #[Value.ref b] s = true → ∃ cA : ClassId, ArrOfT s cA (.object C9) ∧ va_RA s cA (.object C9) := by
    intro C9 h9
    obtain ⟨comp, cA, kA, f1, -, f3, f4, f5⟩ := Cond.arrayOver_spec h9
    exact ⟨cA, fun N z => ⟨(fun k h => by cases h), kA, f3, comp, f4⟩, kA, comp, f3, f4, f1, f5⟩
  have h2 : ∀ t : Nat, ∃ cA : ClassId, t < 6 → ArrOfT s cA (am_ty t) ∧ va_RA s cA (am_ty t) := by
    intro t
    match t with
    | 0 => obtain ⟨cA, h⟩ := prim .int (by intro C9 h9; cases h9) (hgw _ am_acls.1); exact ⟨cA, fun _ => h⟩
    | 1 => obtain ⟨cA, h⟩ := prim .long (by intro C9 h9; cases h9) (hgw _ am_acls.2.1); exact ⟨cA, fun _ => h⟩
    | 2 => obtain ⟨cA, h⟩ := prim .byte (by intro C9 h9; cases h9) (hgw _ am_acls.2.2.1); exact ⟨cA, fun _ => h⟩
    | 3 => obtain ⟨cA, h⟩ := prim .char (by intro C9 h9; cases h9) (hgw _ am_acls.2.2.2); exact ⟨cA, fun _ => h⟩
    | 4 => obtain ⟨cA, h⟩ := obj RX1 (hts _ am_ao1); exact ⟨cA, fun _ => h⟩
    | 5 => obtain ⟨cA, h⟩ := obj RX7 (hts _ am_ao7); exact ⟨cA, fun _ => h⟩
    | t + 6 => exact ⟨default, fun h9 => absurd h9 (by omega)⟩
  obtain ⟨sg, hsg, hT⟩ := va_Tof (tm := am_sgT) (ty := .int) (N := 5) (f := fun j => .int (am_sig j)) (A := fun q : Nat => s.heap.size ≤ q) (by decide) (hfl _ am_n3.1) (va_eqt (hfl _ am_n3.2)) (fun j hj => va_eqt (hfl _ (am_n4 j hj))) hA
  have hsl : sg < s.heap.size := by
    obtain ⟨cell, h9, -⟩ := hT
    exact (Array.getElem?_eq_some_iff.mp h9).1
  have hi1 : (Cond.initialized RX1).before #[Value.ref b] s = true := hgw _ (am_ini (ci := 1) rfl).1
  refine ⟨((fun k => Classical.choose (h1 k), fun k => Classical.choose (Classical.choose_spec (h1 k))), fun t => Classical.choose (h2 t), s.heap.size, b, sg, L, xs), rfl, rfl, rfl, ⟨fun k q hq => Classical.choose_spec (Classical.choose_spec (h1 k)) q hq, fun k q hq => ?_⟩,
    vx_Zqof (hts _ am_ls1) (hts _ am_it) (hfl _ am_n1) hA, vx_Zqof (hts _ am_ls2) (hts _ am_it) (hfl _ am_n2) hA, ⟨hX, hbl⟩, ⟨va_Zref (hts _ am_ls3) hi1 hsg hA, hT, hsl⟩, fun w hw => va_Nw.of (am_nw_ot hw) (hts w (List.mem_filter.mp hw).1), ⟨va_AO.of (hts _ am_ao1), va_AO.of (hts _ am_ao7)⟩, Nat.le_refl _, fun a9 b9 ha hb hab => va_Nc.of (hfl _ (am_n5 a9 ha b9 hb hab))⟩
  have hk : k < 6 := by
    have h9 := (List.getElem?_eq_some_iff.mp hq).1
    simpa [am_tys] using h9
  rw [am_tys_at _ hk] at hq
  cases hq
  exact Classical.choose_spec (h2 k) hk
/-- the empty small heap -/
def am_S0 : am_S := (0, fun _ => .inr (0, []), 0, 0)
/-- THE SMALL MACHINE RUNS THE LAW ON THE SCRIPT xs OF L INTS, AND IT ANSWERS TRUE -/
def am_law (L : Nat) (xs : Nat → Int32) : Prop := ∃ (d : Nat) (T : am_S), d ≤ 1000 ∧ am_ev am_P am_M1 (L, xs) (d + 1) 176 [.ref 1000000] am_S0 (.inl (some (.int 1)), T) ∧ T.2.2.1 ≤ 601024 ∧ T.2.2.2 ≤ 7293034
/-! THE CLAIM OUT OF ONE WALK OF THE LAW'S BODY. Your part is whole_start (and what it stands on); all else here is the same for every law, but numbers. -/
def R_law : String := "FlightReaderLaw"
def lw_P (b : Addr) (xs : List Int32) (args : Array Value) (s : State) : Prop := args = #[.ref b] ∧ s.IntsAt b xs ∧ xs.length ≤ 2048 ∧ (Jvm.Cond.and given_1 narrow_1).before args s = true
def lw_Q (_ : Array Value) (s : State) (o : Outcome) (t : State) : Prop := o = .returned (some (.int 1)) ∧ Framed s o t [] 601024 7293034
def lw_Z (below : List Frame) (a : Array Value) (s : State) : State → Prop := fun t => ∃ o, t.status = .running ∧ Ended t below o ∧ lw_Q a s o t
/-- the law's own end, with 1 on the stack, nothing written that was there before, its room as the claim has it -/
theorem lw_ret {p : Program} {l : Launch} {e : Env} {s : State} {m : MethodId} {below : List Frame} {meth : Method} {c : Code} {b : Nat} (hx : p.tables.exec = Jvm.exec) (hb : c.code = code) (hr : meth.sig.returnType = ret) (hlocks : meth.locks = false) {pc : Nat} {H : Heap} {ls : Array Slot} (hdg : decode code pc = .ok (.ireturn, 1)) : W p l e room_1 s m #[Value.ref b] below meth c H [] 601024 7293034 (lw_Z below #[Value.ref b] s) (F0 m pc ls [.int 1]) := by
  intro T hT X
  obtain ⟨fs, hret, hrun, hended, hW, hframe⟩ := X.leave (v := some (.int 1)) (hlocks := hlocks) (fun h => by rw [hr] at h; cases h)
  have hmeth' : T.vm.method? m = some meth := X.method'
  refine ⟨T.setFrames fs, ?_, .returned (some (.int 1)), hrun, hended, rfl, ⟨_, rfl⟩, hW, hframe⟩
  jvm_step X.here [X.here.top, hx, hb, hdg, hmeth', hr, ret, narrow_b1]
  (try refine ⟨rfl, ?_⟩); (try refine ⟨rfl, ?_⟩)
  first | (intro acts; rw [hret _ acts rfl rfl rfl]) | rw [hret _ _ rfl rfl rfl]
  exact Steps.refl _
/-- what holds at the law's entry: the machine, the code, the tables' words (any of lw_tbl by 'hts w (by decide +kernel)'), the script of L ints xs at the cell b, what the Statement gives of the start (any of its parts by flat_of_before) -/
def lw_At (p : Program) (s : State) (m : MethodId) (meth : Method) (c : Code) (b L : Nat) (xs : Nat → Int32) : Prop :=
  p.tables.exec = Jvm.exec ∧ c.code = code ∧ meth.sig.returnType = ret ∧ c.maxLocals = 8 ∧ s.vm.findClass R_law = some m.cls ∧ (∀ w ∈ lw_tbl, w.before #[Value.ref b] s = true) ∧ va_X b L xs s s.heap ∧ b < s.heap.size ∧ meth.locks = false ∧ (Jvm.Cond.and given_1 narrow_1).before #[Value.ref b] s = true
theorem whole_start {p : Program} {e : Env} {s : State} {m : MethodId} {below : List Frame} {meth : Method} {c : Code} (l : Launch) {b L : Nat} {xs : Nat → Int32} (hlt : l.stackTraces = false) (hnm : meth.name = "law") (HL : am_law L xs) (C0 : lw_At p s m meth c b L xs) : W p l e room_1 s m #[Value.ref b] below meth c s.heap [] 0 0 (lw_Z below #[Value.ref b] s) (entryFrame m ([Value.ref b] : List Value).toArray 8) := by
  obtain ⟨hx, hb, hr, hml, hown, hts, hX, hbl, hlocks, hgv⟩ := C0
  obtain ⟨G, hG1, hG2, hG3, henv⟩ := am_env0 hts hX hbl hgv
  obtain ⟨d, T, hd, hev, hTc, hTs⟩ := HL
  have hgw : ∀ w ∈ am_gw, w.before #[Value.ref b] s = true := fun w hw => hts w (List.mem_filter.mp hw).1
  rw [← hG3] at hev
  simp only [am_ev] at hev
  obtain ⟨hfl, n, hgo⟩ := hev
  have hm : am_M1 176 = (yL_law, cL_law, 8, some .boolean, []) := rfl
  have hv : [Value.ref 1000000].map (am_v G) = [Value.ref b] := by
    show [Value.ref (am_ad G 1000000)] = _
    rw [show am_ad G 1000000 = G.2.2.2.1 from rfl, hG2]
  have C : am_ctx am_M1 G p s m #[Value.ref b] meth c 176 := ⟨hx, hb, hml, hown, hgw, henv, hnm⟩
  refine W.eq (g2 := F0 m 0 ((lg_sl ([Value.ref 1000000].map (am_v G)) ++ List.replicate (8 - (lg_sl ([Value.ref 1000000].map (am_v G))).length) Slot.unset).toArray) []) (by rw [hv]; exact lg_entry_eq m _ 8) ?_
  have hz : am_world G am_S0 s.heap := ⟨fun k q hq => by
    have h9 := (List.getElem?_eq_some_iff.mp hq).1
    simp [am_ws, am_S0] at h9, by decide⟩
  refine am_go_ok (R := room_1) (c0 := 0) (s0 := 0) am_Pok (fun j as S r h1 h2 => am_sound hlt am_Pok am_Hok d j as S r h1 h2) C (rF := (.inl (some (.int 1)), T)) (by show 17 + d ≤ 2048; omega) (by show 460 + 60 * d ≤ 84000; omega) (by show T.2.2.1 ≤ 0 + 601024; omega) (by show T.2.2.2 ≤ 0 + 7293034; omega)
    (fun pc i L9 st S H locs ls hi he hl9 hw9 hS9 hc9 hs9 => ?_)
    (fun E ce q9 pc rest S H locs ls hh hrF => by cases hrF)
    (fun E ce q9 pc x9 L9 rest S H locs ls hf => by cases hf)
    n 0 _ [] am_S0 hgo s.heap [] _ (am_entry_ls G _ hfl) hz va_S.rf (Nat.zero_le _) (Nat.zero_le _) (Nat.le_refl _) (fun _ => by show s.heap.size + 0 ≤ am_b0 G + 0; omega)
  have hchk := (am_Pok _ _ _ hi).1
  obtain ⟨hd9, hln, -⟩ := am_chk_sp hchk
  obtain ⟨op, len, a, b9, w9, cst⟩ := i
  dsimp only at hd9 hln
  cases op <;> first | (exact absurd (show (none : Option am_R) = _ from he) (by simp)) | skip
  case ireturn =>
    have hl1 : len = 1 := by simpa [am_sws, am_len] using hln
    subst hl1
    obtain ⟨v, ty, rfl, -, -, he9⟩ := am_end_i he
    cases he9
    refine va_forget (fun q hq => by have h9 := hS9.2.2 q hq; rw [← hG1]; exact h9) ?_
    refine W.widen (k := 601024) (n := 7293034) (by omega) (by omega) ?_
    exact lw_ret hx hb hr hlocks hd9
  case lreturn =>
    obtain ⟨v, -, -, he9⟩ := am_end_l he
    cases he9
  case return_ =>
    obtain ⟨-, -, he9⟩ := am_end_v he
    cases he9
  case new x9 =>
    obtain ⟨-, -, he9⟩ := am_end_n he
    cases he9
set_option maxHeartbeats 4000000 in
theorem lw_walk (l : Launch) (hlt : l.stackTraces = false) (HL : ∀ (L : Nat) (xs : Nat → Int32), L ≤ 2048 → am_law L xs) (b : Addr) (xs : List Int32) : MetFree l x (headSpec (Jvm.Cond.code x code maxLocals ret :: tables_1) room_1) (lw_P b xs) (fun _ _ _ _ _ => True) lw_Q := by
  refine MetFree.of_bodyS (code := code) (maxLocals := maxLocals) (ret := ret) (by decide) ?_ ?_
  · intro args s m h hn
    obtain ⟨meth, c, h1, h2, h3, h4, h5, h6, -, -⟩ := Cond.code_spec hn (atoms_spec (ws := Jvm.Cond.code x code maxLocals ret :: tables_1) h _ List.mem_cons_self)
    exact ⟨meth, c, h1, h2, h3, h4, h5, h6⟩
  · intro p e s m args below meth c s₁ B hml0 hP _
    obtain ⟨rfl, hx, hbd, hgv⟩ := hP
    obtain ⟨scr, harrAt, hlist, hof, hsmall⟩ := hx
    obtain ⟨hcb, hkn, -, -⟩ := State.arrayAt?_spec harrAt
    have hown : s.vm.findClass R_law = some m.cls := findClass_of_methodNamed B.named
    have hts0 : ∀ c ∈ (Jvm.Cond.code x code maxLocals ret :: tables_1), c.before #[Value.ref b] s = true := atoms_spec (ws := Jvm.Cond.code x code maxLocals ret :: tables_1) B.pre
    have hts : ∀ w ∈ lw_tbl, w.before #[Value.ref b] s = true := k2_hts_sels lw_privs (fun w hw => hts0 w (List.mem_cons_of_mem _ hw)) lw_privs_ok
    have hml : c.maxLocals = 8 := B.maxLocals_eq (hts0 _ List.mem_cons_self)
    have X₀ : Stand p l e room_1 s m #[Value.ref b] below meth c s₁ [] 0 0 := Stand.of_body B
    have hh0 : s₁.heap = s.heap := by rw [B.state]; rfl
    have hsz : scr.slots.size = xs.length := by rw [← Array.length_toList, hlist, List.length_map]
    have hval : ∀ j : Nat, j < xs.length → scr.slots[j]? = some (.int (xs.getD j 0)) := fun j hj => by
      rw [← Array.getElem?_toList, hlist]
      simp [hj]
    have hbl : b < s.heap.size := (Array.getElem?_eq_some_iff.mp hcb).1
    have hX : va_X b xs.length (fun j => xs.getD j 0) s s.heap := ⟨scr, hcb, hof, hkn, hsz, hval⟩
    have K : W p l e room_1 s m #[Value.ref b] below meth c s₁.heap [] 0 0 (lw_Z below #[Value.ref b] s) (entryFrame m ([Value.ref b] : List Value).toArray 8) := by
      rw [hh0]
      exact whole_start l hlt (name_of_methodNamed B.named B.method).1 (HL _ _ hbd) ⟨B.exec, B.bytes, B.returns, hml, hown, hts, hX, hbl, B.notSynchronized, hgv⟩
    obtain ⟨t, a1, o, b1, b2, b3⟩ := K s₁ rfl X₀
    exact ⟨t, o, a1, b1, b2, b3⟩
theorem lw_pre_spec {args : Array Value} {s : State} (h : (Jvm.Cond.and given_1 narrow_1).before args s = true) (hr : rest_1_c.before args s = true) : ∃ (b : Addr) (xs : List Int32), lw_P b xs args s := by
  have hs := flat_of_before _ h
  have hq := flat_of_before _ hr
  have hc : (Cond.count 1).before args s = true := hs _ (by decide +kernel)
  have harr : (Cond.arrayOf (.arg 0) .int).before args s = true := hs _ (by decide +kernel)
  have hle : (Cond.le (.length (.arg 0)) (.int 2048)).before args s = true := hs _ (by decide +kernel)
  have hlen : (Cond.isInt (.length (.arg 0))).before args s = true := hq _ (by decide +kernel)
  have hall : (Cond.all (.arg 0) (.isInt (.elem (.arg 0) (.index 0)))).before args s = true := hq _ (by decide +kernel)
  obtain ⟨b, xs, hb, hx⟩ := State.ints_of_pre rfl harr hlen hall
  have hsm : xs.length < 2 ^ 31 := hx.choose_spec.2.2.2
  have hev : (Term.length (.arg 0)).eval args s none [] s = some (.int xs.length.toInt32) := hx.length_eval hb
  have hv := Cond.le_ints hev (show (Term.int 2048).eval args s none [] s = some (.int 2048) from rfl)
  have hd : xs.length.toInt32 ≤ 2048 := by
    simpa [Cond.before, Cond.holds, hv] using hle
  have hN : xs.length ≤ 2048 := (Int32.ofNat_le_ofNat hsm (by decide)).mp (show Int32.ofNat xs.length ≤ Int32.ofNat 2048 from hd)
  exact ⟨b, xs, Cond.one_arg hc (show args[0]? = some (.ref b) from hb), hx, hN, h⟩
theorem lw_comes (l : Launch) (hlt : l.stackTraces = false) (HL : ∀ (L : Nat) (xs : Nat → Int32), L ≤ 2048 → am_law L xs) : Comes l x (Jvm.Cond.code x code maxLocals ret :: tables_1) room_1 (fun tb e args s => Calls_1 tb e args s ∧ rest_1 tb e args s ∧ Pre_1 tb e args s)
    (fun _ _ args s o t => lw_Q args s o t) := by
  intro p e ha hc hk s m args below hf hfit hheap happ hpre
  obtain ⟨b, xs, hP⟩ := lw_pre_spec hpre.2.2 hpre.2.1
  obtain ⟨k, o, h1, h2, h3, hQ⟩ := lw_walk l hlt HL b xs p e ha hc hk s m args below hf ((Spec.applies_iff_loose hf).mp happ).1 hP trivial
  exact ⟨k, o, h1, h2, h3, hQ⟩
theorem lw_frame {s t : State} {o : Outcome} {args : Array Value} (h : Framed s o t [] 601024 7293034) :
    Framed s o t (fieldLocs frame_1_writes args s ++ arrayLocs frame_1_arrays args s ++ staticLocs frame_1_statics s) 601024 7293034 := h
theorem lw_limb (HL : ∀ (L : Nat) (xs : Nat → Int32), L ≤ 2048 → am_law L xs) (L : Cond) (hL : ∀ (args : Array Value) (s t : State), L.after args s (.returned (some (.int 1))) t = true) :
    ArmFor flags0 classFile x code maxLocals ret World_1 tables_1 room_1 Calls_1 rest_1 Pre_1
      (fun tb e a s o t => postC L tb e a s o t ∧ Framed s o t (fieldLocs frame_1_writes a s ++ arrayLocs frame_1_arrays a s ++ staticLocs frame_1_statics s) 601024 7293034) := by
  intro l hfl9 _ _ p e ha hc hk s m args below hf hfit hheap happ hpre
  obtain ⟨k, o, h1, h2, h3, rfl, hF⟩ := lw_comes l (by rw [Launch.stackTraces, hfl9]; decide +kernel) HL p e ha hc hk s m args below hf hfit hheap happ hpre
  exact ⟨k, _, h1, h2, h3, hL args s _, lw_frame hF⟩
theorem am_claim (HL : ∀ (L : Nat) (xs : Nat → Int32), L ≤ 2048 → am_law L xs) : Claimed_1_1 ∧ Claimed_1_2 := ⟨lw_limb HL limb_1_1 (fun args s t => by simp [limb_1_1, Cond.after, Cond.holds, Cond.value]), lw_limb HL limb_1_2 (fun args s t => Cond.after_iff.mpr (by
  first | (rw [show limb_1_2 = Cond.eq .result (.int 1) from rfl, Cond.eq_ints (x := 1) (y := 1) rfl rfl]; simp; done) | (simp [limb_1_2, Cond.value, Term.eval]; done)))⟩
end
section
/-! RULES OF THE SMALL MACHINE: 'go X d k pc L st S r': the frame of method k at pc comes to r, its callees at most d deep -/
def go (X : Nat × (Nat → Int32)) (d k pc : Nat) (L : am_L) (st : List Value) (S : am_S) (r : am_R) : Prop := ∃ n, am_go am_P am_M1 X (am_ev am_P am_M1 X d) k n pc L st S r
section GO
variable {X : Nat × (Nat → Int32)} {d k pc : Nat} {L : am_L} {st : List Value} {S : am_S} {r : am_R}
theorem go_step {i : am_I} {q : am_F} (hi : am_P k pc = some i) (hs : am_step X i pc L st S = some q) (h : go X d k q.1 q.2.1 q.2.2.1 q.2.2.2 r) : go X d k pc L st S r := by
  obtain ⟨n, h⟩ := h
  refine ⟨n + 1, ?_⟩
  simp only [am_go]
  exact ⟨i, hi, Or.inl ⟨q, hs, h⟩⟩
theorem go_end {i : am_I} (hi : am_P k pc = some i) (he : am_end (am_M1 k).2.2.2.1 i st S = some r) : go X d k pc L st S r := by
  refine ⟨1, ?_⟩
  simp only [am_go]
  exact ⟨i, hi, Or.inr (Or.inl he)⟩
theorem go_call {i : am_I} {as rest : List Value} {v : Option Value} {T : am_S} (hi : am_P k pc = some i) (hc : am_isCall i.1 = true) (hn : i.2.2.1 ≠ 99999) (ha : am_args i st = some (as, rest)) (hr : am_recv am_M1 i as S = true) (hev : am_ev am_P am_M1 X d i.2.2.1 as S (.inl v, T))
    (h : go X d k (pc + 3) L (v.toList ++ rest) T r) : go X d k pc L st S r := by
  obtain ⟨n, h⟩ := h
  refine ⟨n + 1, ?_⟩
  simp only [am_go]
  exact ⟨i, hi, Or.inr (Or.inr ⟨hc, hn, as, rest, (.inl v, T), ha, hr, hev, h⟩)⟩
/-- a callee's throw goes on to the caller -/
theorem go_out {i : am_I} {as rest : List Value} {E : String} {T : am_S} (hi : am_P k pc = some i) (hc : am_isCall i.1 = true) (hn : i.2.2.1 ≠ 99999) (ha : am_args i st = some (as, rest)) (hr : am_recv am_M1 i as S = true) (hev : am_ev am_P am_M1 X d i.2.2.1 as S (.inr E, T))
    (hh : (am_M1 k).2.2.2.2 = []) : go X d k pc L st S (.inr E, T) := by
  refine ⟨1, ?_⟩
  simp only [am_go]
  exact ⟨i, hi, Or.inr (Or.inr ⟨hc, hn, as, rest, (.inr E, T), ha, hr, hev, Or.inl ⟨hh, rfl⟩⟩)⟩
/-- a callee's throw is caught here -/
theorem go_catch {i : am_I} {as rest : List Value} {E : String} {T : am_S} {x : Int32} (hi : am_P k pc = some i) (hc : am_isCall i.1 = true) (hn : i.2.2.1 ≠ 99999) (ha : am_args i st = some (as, rest)) (hr : am_recv am_M1 i as S = true) (hev : am_ev am_P am_M1 X d i.2.2.1 as S (.inr E, T))
    (hf : am_find (am_M1 k).2.2.2.2 pc E = some x) : go X d k pc L st S (.inl (some (.int x)), T) := by
  refine ⟨1, ?_⟩
  simp only [am_go]
  exact ⟨i, hi, Or.inr (Or.inr ⟨hc, hn, as, rest, (.inr E, T), ha, hr, hev, Or.inr ⟨x, hf, rfl⟩⟩)⟩
theorem ev_of {as : List Value} (hf : (am_flat as).length ≤ (am_M1 k).2.2.1) (h : go X d k 0 (am_entry (am_M1 k).2.2.1 as) [] S r) : am_ev am_P am_M1 X (d + 1) k as S r := ⟨hf, h⟩
/-- more depth does no harm -/
theorem am_go_mono {P : Nat → Nat → Option am_I} {M : Nat → am_M} {ev ev' : Nat → List Value → am_S → am_R → Prop} (hev : ∀ k as S r, ev k as S r → ev' k as S r) : ∀ (n pc : Nat) (L : am_L) (st : List Value) (S : am_S), am_go P M X ev k n pc L st S r → am_go P M X ev' k n pc L st S r := by
  intro n
  induction n with
  | zero => intro pc L st S h; exact h
  | succ n ih =>
    intro pc L st S h
    simp only [am_go] at h ⊢
    obtain ⟨i, hi, ⟨q, hq, hg⟩ | he | ⟨h1, h2, as, rest, r1, h3, h4, h5, h6⟩⟩ := h
    · exact ⟨i, hi, Or.inl ⟨q, hq, ih _ _ _ _ hg⟩⟩
    · exact ⟨i, hi, Or.inr (Or.inl he)⟩
    · refine ⟨i, hi, Or.inr (Or.inr ⟨h1, h2, as, rest, r1, h3, h4, hev _ _ _ _ h5, ?_⟩)⟩
      split at h6
      · exact ih _ _ _ _ h6
      · exact h6
theorem ev_mono1 : ∀ (d k : Nat) (as : List Value) (S : am_S) (r : am_R), am_ev am_P am_M1 X d k as S r → am_ev am_P am_M1 X (d + 1) k as S r := by
  intro d
  induction d with
  | zero => intro k as S r h; exact absurd h (by simp [am_ev])
  | succ d ih =>
    intro k as S r h
    simp only [am_ev] at h
    obtain ⟨h1, n, h2⟩ := h
    exact ⟨h1, n, am_go_mono (fun k as S r h => ih k as S r h) n _ _ _ _ h2⟩
theorem ev_mono {d d' : Nat} (hd : d ≤ d') {k : Nat} {as : List Value} {S : am_S} {r : am_R} (h : am_ev am_P am_M1 X d k as S r) : am_ev am_P am_M1 X d' k as S r := by
  induction hd with
  | refl => exact h
  | step _ ih => exact ev_mono1 _ _ _ _ _ ih
/-- several steps at once -/
def am_steps (X : Nat × (Nat → Int32)) (k : Nat) : Nat → am_F → Option am_F
  | 0, f => some f
  | n + 1, f => match am_P k f.1 with
    | some i => (match am_step X i f.1 f.2.1 f.2.2.1 f.2.2.2 with
      | some g => am_steps X k n g
      | none => none)
    | none => none
theorem go_steps : ∀ (n : Nat) {f g : am_F}, am_steps X k n f = some g → go X d k g.1 g.2.1 g.2.2.1 g.2.2.2 r → go X d k f.1 f.2.1 f.2.2.1 f.2.2.2 r := by
  intro n
  induction n with
  | zero => intro f g h hg; cases h; exact hg
  | succ n ih =>
    intro f g h hg
    simp only [am_steps] at h
    split at h
    · rename_i i hi
      split at h
      · rename_i q hq
        exact go_step hi hq (ih h hg)
      · cases h
    · cases h
end GO
end
section
/-! AN EVALUATOR that never looks at the script: what it computes, the small machine does, whatever the script -/
def am_X0 : Nat × (Nat → Int32) := (0, fun _ => 0)
def am_stepC (i : am_I) (pc : Nat) (L : am_L) (st : List Value) (S : am_S) : Option am_F := match i.1, st with
  | .arraylength, .ref o :: _ => if o = 1000000 then none else am_step am_X0 i pc L st S
  | _, _ => am_step am_X0 i pc L st S
theorem am_ro_same {X : Nat × (Nat → Int32)} {o : Nat} (h : o ≠ 1000000) : am_ro X o = am_ro am_X0 o := by
  unfold am_ro
  rw [if_neg h, if_neg h]
theorem am_aload_same {X : Nat × (Nat → Int32)} {t q0 : Nat} {L : am_L} {st : List Value} {S : am_S} {q : am_F} (h : am_aload t q0 L st S am_X0 = some q) : am_aload t q0 L st S X = some q := by
  unfold am_aload at h ⊢
  split at h
  · rename_i j o r
    by_cases ho : o = 1000000
    · subst ho
      simp [am_ro, am_X0, am_in] at h
    · rw [am_ro_same ho]
      exact h
  · cases h
theorem am_stepC_ok {X : Nat × (Nat → Int32)} {i : am_I} {pc : Nat} {L : am_L} {st : List Value} {S : am_S} {q : am_F} (h : am_stepC i pc L st S = some q) : am_step X i pc L st S = some q := by
  obtain ⟨op, len, a, b, w, cst⟩ := i
  by_cases hop : op = .arraylength
  · subst hop
    unfold am_stepC at h
    dsimp only at h
    split at h
    · rename_i o r he
      split at h
      · cases h
      · rename_i ho
        simp only [am_step, am_alen] at h ⊢
        rw [am_ro_same ho]
        exact h
    · rename_i hno
      simp only [am_step, am_alen] at h ⊢
      split at h
      · rename_i o r
        exact absurd rfl (hno o r rfl)
      · cases h
  · have h1 : am_step am_X0 (op, len, a, b, w, cst) pc L st S = some q := by
      unfold am_stepC at h
      dsimp only at h
      split at h
      · rename_i he
        exact absurd rfl hop
      · exact h
    cases op <;> first | exact h1 | exact am_aload_same h1 | exact absurd rfl hop
def am_exe (call : Nat → List Value → am_S → Option am_R) (k : Nat) : Nat → Nat → am_L → List Value → am_S → Option am_R
  | 0, _, _, _, _ => none
  | n + 1, pc, L, st, S => match am_P k pc with
    | none => none
    | some i => match am_stepC i pc L st S with
      | some q => am_exe call k n q.1 q.2.1 q.2.2.1 q.2.2.2
      | none => match am_end (am_M1 k).2.2.2.1 i st S with
        | some r => some r
        | none => if am_isCall i.1 = true ∧ i.2.2.1 ≠ 99999 then (match am_args i st with
          | some (as, rest) => if am_recv am_M1 i as S = true then (match call i.2.2.1 as S with
            | some (.inl v, T) => am_exe call k n (pc + 3) L (v.toList ++ rest) T
            | some (.inr E, T) => if (am_M1 k).2.2.2.2 = [] then some (.inr E, T) else (match am_find (am_M1 k).2.2.2.2 pc E with
              | some x => some (.inl (some (.int x)), T)
              | none => none)
            | none => none) else none
          | none => none) else none
def am_exec (n : Nat) : Nat → Nat → List Value → am_S → Option am_R
  | 0, _, _, _ => none
  | d + 1, k, as, S => if (am_flat as).length ≤ (am_M1 k).2.2.1 then am_exe (am_exec n d) k n 0 (am_entry (am_M1 k).2.2.1 as) [] S else none
theorem am_exe_ok {X : Nat × (Nat → Int32)} {call : Nat → List Value → am_S → Option am_R} {d : Nat} (hc : ∀ k as S r, call k as S = some r → am_ev am_P am_M1 X d k as S r) {k : Nat} {r : am_R} : ∀ (n pc : Nat) (L : am_L) (st : List Value) (S : am_S), am_exe call k n pc L st S = some r → go X d k pc L st S r := by
  intro n
  induction n with
  | zero => intro pc L st S h; cases h
  | succ n ih =>
    intro pc L st S h
    simp only [am_exe] at h
    split at h
    · cases h
    · rename_i i hi
      split at h
      · rename_i q hq
        exact go_step hi (am_stepC_ok hq) (ih _ _ _ _ h)
      · split at h
        · rename_i r0 he
          cases h
          exact go_end hi he
        · split at h
          · rename_i hcall
            split at h
            · rename_i as rest ha
              split at h
              · rename_i hr
                split at h
                · rename_i v T hv
                  exact go_call hi hcall.1 hcall.2 ha hr (hc _ _ _ _ hv) (ih _ _ _ _ h)
                · rename_i E T hv
                  split at h
                  · rename_i hh
                    cases h
                    exact go_out hi hcall.1 hcall.2 ha hr (hc _ _ _ _ hv) hh
                  · split at h
                    · rename_i x hx
                      cases h
                      exact go_catch hi hcall.1 hcall.2 ha hr (hc _ _ _ _ hv) hx
                    · cases h
                · cases h
              · cases h
            · cases h
          · cases h
theorem am_exec_ok {X : Nat × (Nat → Int32)} {n : Nat} : ∀ (d k : Nat) (as : List Value) (S : am_S) (r : am_R), am_exec n d k as S = some r → am_ev am_P am_M1 X d k as S r := by
  intro d
  induction d with
  | zero => intro k as S r h; cases h
  | succ d ih =>
    intro k as S r h
    simp only [am_exec] at h
    split at h
    · rename_i hf
      exact ev_of hf (am_exe_ok ih n _ _ _ _ h)
    · cases h
/-- so many instructions of one frame, calls that return among them -/
def am_walk (call : Nat → List Value → am_S → Option am_R) (k : Nat) : Nat → am_F → Option am_F
  | 0, f => some f
  | n + 1, f => match am_P k f.1 with
    | none => none
    | some i => match am_stepC i f.1 f.2.1 f.2.2.1 f.2.2.2 with
      | some q => am_walk call k n q
      | none => if am_isCall i.1 = true ∧ i.2.2.1 ≠ 99999 then (match am_args i f.2.2.1 with
        | some (as, rest) => if am_recv am_M1 i as f.2.2.2 = true then (match call i.2.2.1 as f.2.2.2 with
          | some (.inl v, T) => am_walk call k n (f.1 + 3, f.2.1, v.toList ++ rest, T)
          | _ => none) else none
        | none => none) else none
theorem go_walk {X : Nat × (Nat → Int32)} {call : Nat → List Value → am_S → Option am_R} {d k : Nat} {r : am_R} (hc : ∀ k as S r, call k as S = some r → am_ev am_P am_M1 X d k as S r) : ∀ (n : Nat) {f g : am_F}, am_walk call k n f = some g → go X d k g.1 g.2.1 g.2.2.1 g.2.2.2 r → go X d k f.1 f.2.1 f.2.2.1 f.2.2.2 r := by
  intro n
  induction n with
  | zero => intro f g h hg; cases h; exact hg
  | succ n ih =>
    intro f g h hg
    simp only [am_walk] at h
    split at h
    · cases h
    · rename_i i hi
      split at h
      · rename_i q hq
        exact go_step hi (am_stepC_ok hq) (ih h hg)
      · split at h
        · rename_i hcall
          split at h
          · rename_i as rest ha
            split at h
            · rename_i hr
              split at h
              · rename_i v T hv
                exact go_call hi hcall.1 hcall.2 ha hr (hc _ _ _ _ hv) (ih h hg)
              · cases h
            · cases h
          · cases h
        · cases h
/-- THE LAW'S START: both objects and the array of one long are made; at the loop's head -/
def am_F0 : am_F := ((am_walk (am_exec 3000 8) 176 13 (0, am_entry 8 [.ref 1000000], [], am_S0))).getD (0, [], [], am_S0)
set_option maxRecDepth 1000000 in
theorem am_F0_pc : (am_walk (am_exec 3000 8) 176 13 (0, am_entry 8 [.ref 1000000], [], am_S0)).isSome = true := by decide +kernel
set_option maxRecDepth 1000000 in
theorem am_F0_1 : am_F0.1 = 23 := by decide +kernel
end
section
/-! RULES WITH AN END CONDITION: 'wp .. Q': the frame comes to an end r with Q r; 'ev .. Q': so does a call -/
def wp (X : Nat × (Nat → Int32)) (d k pc : Nat) (L : am_L) (st : List Value) (S : am_S) (Q : am_R → Prop) : Prop := ∃ r, go X d k pc L st S r ∧ Q r
def ev (X : Nat × (Nat → Int32)) (d k : Nat) (as : List Value) (S : am_S) (Q : am_R → Prop) : Prop := ∃ r, am_ev am_P am_M1 X d k as S r ∧ Q r
section WPS
variable {X : Nat × (Nat → Int32)} {d k pc : Nat} {L : am_L} {st : List Value} {S : am_S} {Q : am_R → Prop}
theorem ev_wp {as : List Value} {L0 : am_L} (hf : (am_flat as).length ≤ (am_M1 k).2.2.1) (hL : am_entry (am_M1 k).2.2.1 as = L0) (h : wp X d k 0 L0 [] S Q) : ev X (d + 1) k as S Q := by
  subst hL
  obtain ⟨r, h, hq⟩ := h
  exact ⟨r, ev_of hf h, hq⟩
theorem ev_up {d' : Nat} (hd : d ≤ d') {as : List Value} (h : ev X d k as S Q) : ev X d' k as S Q := by
  obtain ⟨r, h, hq⟩ := h
  exact ⟨r, ev_mono hd h, hq⟩
theorem ev_conv {Q' : am_R → Prop} {as : List Value} (h : ev X d k as S Q) (hQ : ∀ r, Q r → Q' r) : ev X d k as S Q' := by
  obtain ⟨r, h, hq⟩ := h
  exact ⟨r, h, hQ r hq⟩
theorem wp_step {i : am_I} {pc' : Nat} {L' : am_L} {st' : List Value} {S' : am_S} (hi : am_P k pc = some i) (hs : am_step X i pc L st S = some (pc', L', st', S')) (h : wp X d k pc' L' st' S' Q) : wp X d k pc L st S Q := by
  obtain ⟨r, h, hq⟩ := h
  exact ⟨r, go_step hi hs h, hq⟩
theorem wp_end {i : am_I} {r : am_R} (hi : am_P k pc = some i) (he : am_end (am_M1 k).2.2.2.1 i st S = some r) (hq : Q r) : wp X d k pc L st S Q := ⟨r, go_end hi he, hq⟩
theorem wp_iret {len a b w : Nat} {cst : Int} {v : Int32} {ty : FieldType} (hi : am_P k pc = some (.ireturn, len, a, b, w, cst)) (hr : (am_M1 k).2.2.2.1 = some ty) (hn : narrow ty (.int v) = .int v) (hq : Q (.inl (some (.int v)), S)) : wp X d k pc L [.int v] S Q :=
  wp_end hi (by rw [hr]; simp only [am_end, hn, if_true]) hq
theorem wp_lret {len a b w : Nat} {cst : Int} {v : Int64} (hi : am_P k pc = some (.lreturn, len, a, b, w, cst)) (hr : (am_M1 k).2.2.2.1 = some .long) (hq : Q (.inl (some (.long v)), S)) : wp X d k pc L [.long v] S Q :=
  wp_end hi (by rw [hr]; rfl) hq
theorem wp_vret {len a b w : Nat} {cst : Int} (hi : am_P k pc = some (.return_, len, a, b, w, cst)) (hr : (am_M1 k).2.2.2.1 = none) (hq : Q (.inl none, S)) : wp X d k pc L [] S Q :=
  wp_end hi (by rw [hr]; rfl) hq
theorem wp_thr {x len a b w : Nat} {cst : Int} (hi : am_P k pc = some (.new x, len, a, b, w, cst)) (ha : a = 100 ∨ a = 101 ∨ a = 102) (hq : Q (.inr (am_exc a), am_thrown S)) : wp X d k pc L [] S Q := by
  rcases ha with rfl | rfl | rfl <;> exact wp_end hi rfl hq
/-- a call: what it gives back, what it throws (caught here or not) -/
theorem wp_call {i : am_I} {as rest : List Value} {Qc : am_R → Prop} (hi : am_P k pc = some i) (hc : am_isCall i.1 = true) (hn : i.2.2.1 ≠ 99999) (ha : am_args i st = some (as, rest)) (hr : am_recv am_M1 i as S = true) (hev : ev X d i.2.2.1 as S Qc)
    (hret : ∀ v T, Qc (.inl v, T) → wp X d k (pc + 3) L (v.toList ++ rest) T Q) (hthr : ∀ E T, Qc (.inr E, T) → ((am_M1 k).2.2.2.2 = [] ∧ Q (.inr E, T)) ∨ ∃ x, am_find (am_M1 k).2.2.2.2 pc E = some x ∧ Q (.inl (some (.int x)), T)) : wp X d k pc L st S Q := by
  obtain ⟨⟨o, T⟩, hev, hq⟩ := hev
  cases o with
  | inl v =>
    obtain ⟨r, h, hq2⟩ := hret v T hq
    exact ⟨r, go_call hi hc hn ha hr hev h, hq2⟩
  | inr E =>
    rcases hthr E T hq with ⟨hh, hq2⟩ | ⟨x, hf, hq2⟩
    · exact ⟨_, go_out hi hc hn ha hr hev hh, hq2⟩
    · exact ⟨_, go_catch hi hc hn ha hr hev hf, hq2⟩
theorem wp_if {o : ClassFile.Cond} {off : Int} {len a b w : Nat} {cst : Int} {x : Int32} (hi : am_P k pc = some (.ifCond o off, len, a, b, w, cst)) (ht : am_c1 o x = true → wp X d k a L st S Q) (hf : am_c1 o x = false → wp X d k (pc + len) L st S Q) : wp X d k pc L (.int x :: st) S Q := by
  cases hc : am_c1 o x with
  | true => exact wp_step hi (by simp only [am_step, hc, if_true]) (ht hc)
  | false => exact wp_step (pc' := pc + len) hi (by simp only [am_step, hc]; rfl) (hf hc)
theorem wp_icmp {o : ClassFile.Cond} {off : Int} {len a b w : Nat} {cst : Int} {x y : Int32} (hi : am_P k pc = some (.if_icmp o off, len, a, b, w, cst)) (ht : am_c2 o x y = true → wp X d k a L st S Q) (hf : am_c2 o x y = false → wp X d k (pc + len) L st S Q) : wp X d k pc L (.int y :: .int x :: st) S Q := by
  cases hc : am_c2 o x y with
  | true => exact wp_step hi (by simp only [am_step, hc, if_true]) (ht hc)
  | false => exact wp_step (pc' := pc + len) hi (by simp only [am_step, hc]; rfl) (hf hc)
theorem wp_if_t {o : ClassFile.Cond} {off : Int} {len a b w : Nat} {cst : Int} {x : Int32} (hi : am_P k pc = some (.ifCond o off, len, a, b, w, cst)) (hc : am_c1 o x = true) (h : wp X d k a L st S Q) : wp X d k pc L (.int x :: st) S Q :=
  wp_if hi (fun _ => h) (fun h2 => by rw [hc] at h2; cases h2)
theorem wp_if_f {o : ClassFile.Cond} {off : Int} {len a b w : Nat} {cst : Int} {x : Int32} (hi : am_P k pc = some (.ifCond o off, len, a, b, w, cst)) (hc : am_c1 o x = false) (h : wp X d k (pc + len) L st S Q) : wp X d k pc L (.int x :: st) S Q :=
  wp_if hi (fun h2 => by rw [hc] at h2; cases h2) (fun _ => h)
theorem wp_icmp_t {o : ClassFile.Cond} {off : Int} {len a b w : Nat} {cst : Int} {x y : Int32} (hi : am_P k pc = some (.if_icmp o off, len, a, b, w, cst)) (hc : am_c2 o x y = true) (h : wp X d k a L st S Q) : wp X d k pc L (.int y :: .int x :: st) S Q :=
  wp_icmp hi (fun _ => h) (fun h2 => by rw [hc] at h2; cases h2)
theorem wp_icmp_f {o : ClassFile.Cond} {off : Int} {len a b w : Nat} {cst : Int} {x y : Int32} (hi : am_P k pc = some (.if_icmp o off, len, a, b, w, cst)) (hc : am_c2 o x y = false) (h : wp X d k (pc + len) L st S Q) : wp X d k pc L (.int y :: .int x :: st) S Q :=
  wp_icmp hi (fun h2 => by rw [hc] at h2; cases h2) (fun _ => h)
theorem wp_getf {x len a b w o : Nat} {cst : Int} {fs : List Value} {v : Value} (hi : am_P k pc = some (.getfield x, len, a, b, w, cst)) (hg : am_get S o = some (.inr (a, fs))) (hv : fs[b]? = some v) (h : wp X d k (pc + len) L (v :: st) S Q) : wp X d k pc L (.ref o :: st) S Q :=
  wp_step hi (by simp only [am_step, am_getf, hg, if_true, hv]) h
theorem wp_putf {x len a b w o : Nat} {cst : Int} {fs : List Value} {v : Value} (hi : am_P k pc = some (.putfield x, len, a, b, w, cst)) (hg : am_get S o = some (.inr (a, fs))) (hb : b < fs.length) (hn : narrow (am_fty a b) v = v) (hf : fits (am_fty a b) v = true)
    (h : wp X d k (pc + len) L st (am_upd S o (.inr (a, fs.set b v))) Q) : wp X d k pc L (v :: .ref o :: st) S Q :=
  wp_step hi (by simp only [am_step, am_putf, hg]; rw [if_pos ⟨trivial, hb, hn, hf⟩]) h
/-- reading ints, bytes or characters -/
theorem wp_ald {op : Instr} {len a b w o n t : Nat} {cst : Int} {f : Nat → Int32} {j : Int32} (hi : am_P k pc = some (op, len, a, b, w, cst)) (hop : (op = .iaload ∧ t = 0) ∨ (op = .baload ∧ t = 2) ∨ (op = .caload ∧ t = 3)) (ho : o < 1000000) (hg : am_get S o = some (.inl (t, n, .inl f))) (hj : am_in j n = true)
    (h : wp X d k (pc + len) L (.int (f j.toNatClampNeg) :: st) S Q) : wp X d k pc L (.int j :: .ref o :: st) S Q := by
  have hro : am_ro X o = none := by unfold am_ro; rw [if_neg (by omega), if_neg (by omega)]
  rcases hop with ⟨rfl, rfl⟩ | ⟨rfl, rfl⟩ | ⟨rfl, rfl⟩ <;> exact wp_step hi (by simp [am_step, am_aload, hro, hg, hj]) h
theorem wp_lald {len a b w o n : Nat} {cst : Int} {f : Nat → Int64} {j : Int32} (hi : am_P k pc = some (.laload, len, a, b, w, cst)) (ho : o < 1000000) (hg : am_get S o = some (.inl (1, n, .inr (.inl f)))) (hj : am_in j n = true)
    (h : wp X d k (pc + len) L (.long (f j.toNatClampNeg) :: st) S Q) : wp X d k pc L (.int j :: .ref o :: st) S Q := by
  have hro : am_ro X o = none := by unfold am_ro; rw [if_neg (by omega), if_neg (by omega)]
  exact wp_step hi (by simp [am_step, am_aload, hro, hg, hj]) h
theorem wp_aald {len a b w o n t : Nat} {cst : Int} {f : Nat → Option Nat} {j : Int32} (hi : am_P k pc = some (.aaload, len, a, b, w, cst)) (ho : o < 1000000) (hg : am_get S o = some (.inl (t, n, .inr (.inr (.inr (.inr f)))))) (ht : t = 4 ∨ t = 5) (hj : am_in j n = true)
    (h : wp X d k (pc + len) L (va_rf (f j.toNatClampNeg) :: st) S Q) : wp X d k pc L (.int j :: .ref o :: st) S Q := by
  have hro : am_ro X o = none := by unfold am_ro; rw [if_neg (by omega), if_neg (by omega)]
  exact wp_step hi (by simp [am_step, am_aload, hro, hg, hj, ht]) h
/-- the script's own ints -/
theorem wp_sld {len a b w : Nat} {cst : Int} {j : Int32} (hi : am_P k pc = some (.iaload, len, a, b, w, cst)) (hj : am_in j X.1 = true) (h : wp X d k (pc + len) L (.int (X.2 j.toNatClampNeg) :: st) S Q) : wp X d k pc L (.int j :: .ref 1000000 :: st) S Q :=
  wp_step hi (by simp [am_step, am_aload, am_ro, hj]) h
theorem wp_ast {op : Instr} {len a b w o n t : Nat} {cst : Int} {f : Nat → Int32} {j x : Int32} (hi : am_P k pc = some (op, len, a, b, w, cst)) (hop : (op = .iastore ∧ t = 0) ∨ (op = .bastore ∧ t = 2) ∨ (op = .castore ∧ t = 3)) (hg : am_get S o = some (.inl (t, n, .inl f))) (hj : am_in j n = true)
    (h : wp X d k (pc + len) L st (am_upd S o (.inl (t, n, .inl (upd f j.toNatClampNeg (vp_nar (am_ty t) x))))) Q) : wp X d k pc L (.int x :: .int j :: .ref o :: st) S Q := by
  rcases hop with ⟨rfl, rfl⟩ | ⟨rfl, rfl⟩ | ⟨rfl, rfl⟩ <;> exact wp_step hi (by simp [am_step, am_astore, hg, hj]) h
theorem wp_last {len a b w o n : Nat} {cst : Int} {f : Nat → Int64} {j : Int32} {x : Int64} (hi : am_P k pc = some (.lastore, len, a, b, w, cst)) (hg : am_get S o = some (.inl (1, n, .inr (.inl f)))) (hj : am_in j n = true)
    (h : wp X d k (pc + len) L st (am_upd S o (.inl (1, n, .inr (.inl (vp_updL f j.toNatClampNeg x))))) Q) : wp X d k pc L (.long x :: .int j :: .ref o :: st) S Q :=
  wp_step hi (by simp [am_step, am_astore, hg, hj]) h
end WPS
/-! cells behind an update -/
theorem am_get_upd {S : am_S} {a b : Nat} {x : am_C} : am_get (am_upd S a x) b = if b < S.1 then (if b = a then some x else some (S.2.1 b)) else none := by
  unfold am_get am_upd
  dsimp only
  split
  · split <;> rfl
  · rfl
theorem am_get_self {S : am_S} {a : Nat} {x y : am_C} (h : am_get S a = some y) : am_get (am_upd S a x) a = some x := by
  rw [am_get_upd, if_pos (am_get_inv h).1, if_pos rfl]
theorem am_get_ne {S : am_S} {a b : Nat} {x : am_C} (h : b ≠ a) : am_get (am_upd S a x) b = am_get S b := by
  rw [am_get_upd]
  unfold am_get
  rw [if_neg h]
theorem am_upd_cs (S : am_S) (a : Nat) (x : am_C) : (am_upd S a x).1 = S.1 ∧ (am_upd S a x).2.2 = S.2.2 := ⟨rfl, rfl⟩
end
section
/-! objects as functions from field numbers to values -/
def ob (ci n : Nat) (g : Nat → Value) : am_C := .inr (ci, (List.range n).map g)
theorem ob_at {ci n b : Nat} {g : Nat → Value} (hb : b < n) : ((List.range n).map g)[b]? = some (g b) := by simp [hb]
theorem ob_set {n b : Nat} {g : Nat → Value} {v : Value} : ((List.range n).map g).set b v = (List.range n).map (va_up g b v) := by
  apply List.ext_getElem?
  intro j
  rw [List.getElem?_set]
  by_cases hj : j < n
  · by_cases e : b = j
    · subst e; simp [hj, va_up]
    · have e2 : ¬ j = b := fun h => e h.symm
      simp [e, hj, va_up, e2]
  · by_cases e : b = j
    · subst e; simp [hj]
    · simp [e, hj]
theorem am_upd_upd {S : am_S} {a : Nat} {x y : am_C} : am_upd (am_upd S a x) a y = am_upd S a y := by
  unfold am_upd
  dsimp only
  congr 1
  congr 1
  funext k
  split <;> rfl
theorem am_upd_comm {S : am_S} {a b : Nat} {x y : am_C} (h : a ≠ b) : am_upd (am_upd S a x) b y = am_upd (am_upd S b y) a x := by
  unfold am_upd
  dsimp only
  congr 1
  congr 1
  funext k
  by_cases h1 : k = a
  · have h2 : ¬ k = b := fun h3 => h (h1.symm.trans h3)
    simp [h1, h]
  · simp [h1]
theorem am_upd_same {S : am_S} {a : Nat} {x : am_C} (h : am_get S a = some x) : am_upd S a x = S := by
  obtain ⟨h1, h2⟩ := am_get_inv h
  obtain ⟨n, f, c, s⟩ := S
  unfold am_upd
  dsimp only at h2 ⊢
  congr 1
  congr 1
  funext k
  split
  · rename_i hk; rw [hk]; exact h2.symm
  · rfl
section WPO
variable {X : Nat × (Nat → Int32)} {d k pc : Nat} {L : am_L} {st : List Value} {S : am_S} {Q : am_R → Prop}
theorem wp_getg {x len a b w o n : Nat} {cst : Int} {g : Nat → Value} {v : Value} (hi : am_P k pc = some (.getfield x, len, a, b, w, cst)) (hg : am_get S o = some (ob a n g)) (hb : b < n) (hv : g b = v) (h : wp X d k (pc + len) L (v :: st) S Q) : wp X d k pc L (.ref o :: st) S Q :=
  wp_getf hi hg (by rw [ob_at (ci := 0) hb, hv]) h
theorem wp_putg {x len a b w o n : Nat} {cst : Int} {g : Nat → Value} {v : Value} (hi : am_P k pc = some (.putfield x, len, a, b, w, cst)) (hg : am_get S o = some (ob a n g)) (hb : b < n) (hn : narrow (am_fty a b) v = v) (hf : fits (am_fty a b) v = true)
    (h : wp X d k (pc + len) L st (am_upd S o (ob a n (va_up g b v))) Q) : wp X d k pc L (v :: .ref o :: st) S Q := by
  refine wp_putf hi hg (by simp [hb]) hn hf ?_
  rw [ob_set]
  exact h
end WPO
theorem am_in_nI {p n : Nat} (h : p < n) (hn : n < 2 ^ 31) : am_in (nI p) n = true := by
  unfold am_in
  exact decide_eq_true (nI_in h hn)
/-- Source.fail: it throws, and tells the fault -/
theorem c44 (X : Nat × (Nat → Int32)) (d : Nat) {S : am_S} {o : Nat} {g : Nat → Value} (a b : Int32) (h : am_get S o = some (ob 5 8 g)) :
    ev X (d + 1) 44 [.ref o, .int a, .int b] S (fun r => r = (.inr "java/lang/IllegalArgumentException", am_thrown (am_upd S o (ob 5 8 (va_up (va_up g 6 (.int a)) 7 (.int b)))))) := by
  refine ev_wp (L0 := [some (.ref o), some (.int a), some (.int b)]) (Nat.le_of_ble_eq_true rfl) rfl ?_
  refine wp_step rfl rfl ?_
  refine wp_step rfl rfl ?_
  refine wp_putg rfl h (by decide) rfl rfl ?_
  refine wp_step rfl rfl ?_
  refine wp_step rfl rfl ?_
  refine wp_putg rfl (am_get_self h) (by decide) rfl rfl ?_
  rw [am_upd_upd]
  exact wp_thr rfl (by decide) rfl
/-- a compressed number: n more bytes at most, the k-th one next, at p, v so far -/
def cnum (B : Nat → Int32) (lim : Nat) : Nat → Nat → Nat → Int64 → Option (Int64 × Nat)
  | 0, _, _, _ => none
  | n + 1, k, p, v => if lim ≤ p then none else if 8 ≤ k ∨ B p < 128 then some (v ||| ((B p).toInt64 <<< ((nI (7 * k)).toInt64 &&& 63)), p + 1) else cnum B lim n (k + 1) (p + 1) (v ||| ((B p &&& 127).toInt64 <<< ((nI (7 * k)).toInt64 &&& 63)))
theorem nI_7 (k : Nat) : nI (7 * k) + 7 = nI (7 * (k + 1)) := by
  rw [show (7 : Int32) = nI 7 from rfl, nI_add]
  congr 1
theorem recv_ok {x len a b w o ci n : Nat} {cst : Int} {g : Nat → Value} {S : am_S} {As : List Value} (h : am_get S o = some (ob ci n g)) (hc : (vwCl[ci]?).map (fun q => q.1) = some (am_M1 a).1.cls) : am_recv am_M1 (.invokevirtual x, len, a, b, w, cst) (.ref o :: As) S = true := by
  simp only [am_recv, h, ob]
  exact decide_eq_true hc
theorem c2_lt {a b : Nat} (ha : a < 2 ^ 31) (hb : b < 2 ^ 31) {t : Bool} (h : am_c2 .lt (nI a) (nI b) = t) : (a < b ↔ t = true) := by
  unfold am_c2 at h
  rw [← h, decide_eq_true_iff, nI_ltI ha hb]
theorem va_up_up {α : Type} (f : Nat → α) (k : Nat) (v w : α) : va_up (va_up f k v) k w = va_up f k w := bx_uu f k v w
theorem c2_eq {a b : Nat} (ha : a < 2 ^ 31) (hb : b < 2 ^ 31) {t : Bool} (h : am_c2 .eq (nI a) (nI b) = t) : (a = b ↔ t = true) := by
  unfold am_c2 at h
  rw [← h, decide_eq_true_iff, nI_eq ha hb]
theorem va_up_id {g : Nat → Value} {k : Nat} {v : Value} (h : g k = v) : va_up g k v = g := by
  funext j
  unfold va_up
  split
  · rename_i e; rw [e, h]
  · rfl
set_option maxHeartbeats 1000000 in
/-- Source.number: one turn of its loop -/
theorem number_turn (X : Nat × (Nat → Int32)) (d : Nat) {so bo lim : Nat} {fb : Nat → Int32} {st : Int32} {Q : am_R → Prop} (hso : bo ≠ so) (hlim : lim ≤ 960) (hbo : bo < 1000000) {n k p : Nat} {v : Int64} {x5 : Option Value} {S : am_S} {g : Nat → Value}
    (hk : k + n = 8) (hS : am_get S so = some (ob 5 8 g)) (hB : am_get S bo = some (.inl (2, 960, .inl fb))) (g0 : g 0 = .ref bo) (g3 : g 3 = .int (nI p)) (g4 : g 4 = .int (nI lim)) (hp : p ≤ 960)
    (hret : ∀ v' p', cnum (fun j => fb j &&& 255) lim (n + 1) k p v = some (v', p') → Q (.inl (some (.long v')), am_upd S so (ob 5 8 (va_up g 3 (.int (nI p'))))))
    (hthr : cnum (fun j => fb j &&& 255) lim (n + 1) k p v = none → ∀ q : Nat, q ≤ 960 → Q (.inr "java/lang/IllegalArgumentException", am_thrown (am_upd S so (ob 5 8 (va_up (va_up (va_up g 3 (.int (nI q))) 6 (.int 2)) 7 (.int st))))))
    (hnext : k < 8 → p < lim → ¬ (fb p &&& 255) < 128 → wp X (d + 1) 49 10 [some (.ref so), some (.int st), some (.long (v ||| ((fb p &&& 255 &&& 127).toInt64 <<< ((nI (7 * k)).toInt64 &&& 63)))), none, some (.int (nI (7 * (k + 1)))), some (.int (fb p &&& 255))] [] (am_upd S so (ob 5 8 (va_up g 3 (.int (nI (p + 1)))))) Q) :
    wp X (d + 1) 49 10 [some (.ref so), some (.int st), some (.long v), none, some (.int (nI (7 * k))), x5] [] S Q := by
  refine wp_step rfl rfl ?_
  refine wp_step rfl rfl ?_
  refine wp_icmp_f rfl ?_ ?_
  · show am_c2 .gt (nI (7 * k)) (nI 56) = false
    exact decide_eq_false (nI_nlt (by omega) (by decide))
  refine wp_step rfl rfl ?_
  refine wp_getg rfl hS (by decide) g3 ?_
  refine wp_step rfl rfl ?_
  refine wp_getg rfl hS (by decide) g4 ?_
  refine wp_icmp rfl (fun c1 => ?_) (fun c1 => ?_)
  · have hpl : p < lim := (c2_lt (by omega) (by omega) c1).mpr rfl
    refine wp_step rfl rfl ?_
    refine wp_getg rfl hS (by decide) g0 ?_
    refine wp_step rfl rfl ?_
    refine wp_getg rfl hS (by decide) g3 ?_
    refine wp_ald rfl (Or.inr (Or.inl ⟨rfl, rfl⟩)) hbo hB (am_in_nI (by omega) (by decide)) ?_
    rw [nI_clamp (by omega)]
    refine wp_step rfl rfl ?_
    refine wp_step rfl rfl ?_
    refine wp_step rfl rfl ?_
    refine wp_step rfl rfl ?_
    refine wp_step rfl rfl ?_
    refine wp_getg rfl hS (by decide) g3 ?_
    refine wp_step rfl rfl ?_
    refine wp_step rfl rfl ?_
    refine wp_putg rfl hS (by decide) rfl rfl ?_
    rw [show nI p + Int32.ofInt 1 = nI (p + 1) from nI_1 p]
    have done : (8 ≤ k ∨ (fb p &&& 255) < 128) → wp X (d + 1) 49 74 [some (.ref so), some (.int st), some (.long v), none, some (.int (nI (7 * k))), some (.int (fb p &&& 255))] [] (am_upd S so (ob 5 8 (va_up g 3 (.int (nI (p + 1)))))) Q := by
      intro hd
      refine wp_step rfl rfl ?_
      refine wp_step rfl rfl ?_
      refine wp_step rfl rfl ?_
      refine wp_step rfl rfl ?_
      refine wp_step rfl rfl ?_
      refine wp_step rfl rfl ?_
      refine wp_lret rfl rfl ?_
      exact hret _ _ (by simp only [cnum]; rw [if_neg (by omega), if_pos hd])
    refine wp_step rfl rfl ?_
    refine wp_step rfl rfl ?_
    refine wp_icmp rfl (fun c2 => ?_) (fun c2 => ?_)
    · exact done (Or.inl (by have := (c2_eq (by omega) (by decide) (show am_c2 .eq (nI (7 * k)) (nI 56) = true from c2)).mpr rfl; omega))
    · have hk8 : k < 8 := by
        rcases Nat.lt_or_ge k 8 with h | h
        · exact h
        · have h9 := (c2_eq (by omega) (by decide) (show am_c2 .eq (nI (7 * k)) (nI 56) = false from c2)).mp (by omega)
          cases h9
      refine wp_step rfl rfl ?_
      refine wp_step rfl rfl ?_
      refine wp_icmp rfl (fun c3 => ?_) (fun c3 => ?_)
      · have hge : ¬ (fb p &&& 255) < 128 := by
          have h9 : (128 : Int32) ≤ (fb p &&& 255) := of_decide_eq_true c3
          exact Int32.not_lt.mpr h9
        refine wp_step rfl rfl ?_
        refine wp_step rfl rfl ?_
        refine wp_step rfl rfl ?_
        refine wp_step rfl rfl ?_
        refine wp_step rfl rfl ?_
        refine wp_step rfl rfl ?_
        refine wp_step rfl rfl ?_
        refine wp_step rfl rfl ?_
        refine wp_step rfl rfl ?_
        refine wp_step rfl rfl ?_
        refine wp_step rfl rfl ?_
        rw [show nI (7 * k) + Int32.ofInt 7 = nI (7 * (k + 1)) from nI_7 k]
        exact hnext hk8 hpl hge
      · refine done (Or.inr ?_)
        have h9 : ¬ (128 : Int32) ≤ (fb p &&& 255) := of_decide_eq_false c3
        exact Int32.not_le.mp h9
  · refine wp_step rfl rfl ?_
    refine wp_step rfl rfl ?_
    refine wp_step rfl rfl ?_
    refine wp_call rfl rfl (by decide) rfl (recv_ok hS rfl) (c44 X d _ _ hS) ?_ ?_
    · intro v T h; cases h
    · intro E T h
      cases h
      refine Or.inl ⟨rfl, ?_⟩
      have hpl : ¬ p < lim := fun h9 => by have h8 := (c2_lt (by omega) (by omega) c1).mp h9; cases h8
      have h9 := hthr (by simp only [cnum]; rw [if_pos (by omega)]) p hp
      rw [va_up_id g3] at h9
      exact h9
/-- Source.number's loop -/
theorem number_loop (X : Nat × (Nat → Int32)) (d : Nat) {so bo lim : Nat} {fb : Nat → Int32} {st : Int32} {Q : am_R → Prop} (hso : bo ≠ so) (hlim : lim ≤ 960) (hbo : bo < 1000000) :
    ∀ (n k p : Nat) (v : Int64) (x5 : Option Value) (S : am_S) (g : Nat → Value), k + n = 8 → am_get S so = some (ob 5 8 g) → am_get S bo = some (.inl (2, 960, .inl fb)) → g 0 = .ref bo → g 3 = .int (nI p) → g 4 = .int (nI lim) → p ≤ 960 →
      (∀ v' p', cnum (fun j => fb j &&& 255) lim (n + 1) k p v = some (v', p') → Q (.inl (some (.long v')), am_upd S so (ob 5 8 (va_up g 3 (.int (nI p')))))) →
      (cnum (fun j => fb j &&& 255) lim (n + 1) k p v = none → ∀ q : Nat, q ≤ 960 → Q (.inr "java/lang/IllegalArgumentException", am_thrown (am_upd S so (ob 5 8 (va_up (va_up (va_up g 3 (.int (nI q))) 6 (.int 2)) 7 (.int st)))))) →
      wp X (d + 1) 49 10 [some (.ref so), some (.int st), some (.long v), none, some (.int (nI (7 * k))), x5] [] S Q := by
  intro n
  induction n with
  | zero =>
    intro k p v x5 S g hk hS hB g0 g3 g4 hp hret hthr
    exact number_turn X d hso hlim hbo hk hS hB g0 g3 g4 hp hret hthr (fun h => absurd h (by omega))
  | succ n ih =>
    intro k p v x5 S g hk hS hB g0 g3 g4 hp hret hthr
    refine number_turn X d hso hlim hbo hk hS hB g0 g3 g4 hp hret hthr (fun h8 hpl hge => ?_)
    have hc : cnum (fun j => fb j &&& 255) lim (n + 1 + 1) k p v = cnum (fun j => fb j &&& 255) lim (n + 1) (k + 1) (p + 1) (v ||| ((fb p &&& 255 &&& 127).toInt64 <<< ((nI (7 * k)).toInt64 &&& 63))) := by
      rw [cnum]
      rw [if_neg (by omega), if_neg (fun h9 => h9.elim (fun h10 => absurd h10 (by omega)) hge)]
    refine ih (k + 1) (p + 1) _ _ _ (va_up g 3 (.int (nI (p + 1)))) (by omega) (am_get_self hS) (by rw [am_get_ne hso]; exact hB) g0 rfl g4 (by omega) (fun v' p' h9 => ?_) (fun h9 q hq => ?_)
    · have h10 := hret v' p' (by rw [hc]; exact h9)
      rw [am_upd_upd, va_up_up]
      exact h10
    · have h10 := hthr (by rw [hc]; exact h9) q hq
      rw [am_upd_upd, va_up_up]
      exact h10
end
section
/-! Source: what its cells are, and its methods -/
def srcG (fed total pos lim idp : Nat) (fk fp : Int32) : Nat → Value := fun k => match k with
  | 0 => .ref 2
  | 1 => .int (nI fed)
  | 2 => .int (nI total)
  | 3 => .int (nI pos)
  | 4 => .int (nI lim)
  | 5 => .int (nI idp)
  | 6 => .int fk
  | 7 => .int fp
  | _ => .null
abbrev src (fed total pos lim idp : Nat) (fk fp : Int32) : am_C := ob 5 8 (srcG fed total pos lim idp fk fp)
theorem srcG_1 {fed total pos lim idp : Nat} {fk fp : Int32} {z : Nat} : va_up (srcG fed total pos lim idp fk fp) 1 (.int (nI z)) = srcG z total pos lim idp fk fp := by
  funext k
  match k with
  | 0 => rfl
  | 1 => rfl
  | 2 => rfl
  | 3 => rfl
  | 4 => rfl
  | 5 => rfl
  | 6 => rfl
  | 7 => rfl
  | k + 8 => simp [va_up, srcG]
theorem srcG_2 {fed total pos lim idp : Nat} {fk fp : Int32} {z : Nat} : va_up (srcG fed total pos lim idp fk fp) 2 (.int (nI z)) = srcG fed z pos lim idp fk fp := by
  funext k
  match k with
  | 0 => rfl
  | 1 => rfl
  | 2 => rfl
  | 3 => rfl
  | 4 => rfl
  | 5 => rfl
  | 6 => rfl
  | 7 => rfl
  | k + 8 => simp [va_up, srcG]
theorem srcG_3 {fed total pos lim idp : Nat} {fk fp : Int32} {z : Nat} : va_up (srcG fed total pos lim idp fk fp) 3 (.int (nI z)) = srcG fed total z lim idp fk fp := by
  funext k
  match k with
  | 0 => rfl
  | 1 => rfl
  | 2 => rfl
  | 3 => rfl
  | 4 => rfl
  | 5 => rfl
  | 6 => rfl
  | 7 => rfl
  | k + 8 => simp [va_up, srcG]
theorem srcG_4 {fed total pos lim idp : Nat} {fk fp : Int32} {z : Nat} : va_up (srcG fed total pos lim idp fk fp) 4 (.int (nI z)) = srcG fed total pos z idp fk fp := by
  funext k
  match k with
  | 0 => rfl
  | 1 => rfl
  | 2 => rfl
  | 3 => rfl
  | 4 => rfl
  | 5 => rfl
  | 6 => rfl
  | 7 => rfl
  | k + 8 => simp [va_up, srcG]
theorem srcG_5 {fed total pos lim idp : Nat} {fk fp : Int32} {z : Nat} : va_up (srcG fed total pos lim idp fk fp) 5 (.int (nI z)) = srcG fed total pos lim z fk fp := by
  funext k
  match k with
  | 0 => rfl
  | 1 => rfl
  | 2 => rfl
  | 3 => rfl
  | 4 => rfl
  | 5 => rfl
  | 6 => rfl
  | 7 => rfl
  | k + 8 => simp [va_up, srcG]
theorem srcG_6 {fed total pos lim idp : Nat} {fk fp : Int32} {z : Int32} : va_up (srcG fed total pos lim idp fk fp) 6 (.int z) = srcG fed total pos lim idp z fp := by
  funext k
  match k with
  | 0 => rfl
  | 1 => rfl
  | 2 => rfl
  | 3 => rfl
  | 4 => rfl
  | 5 => rfl
  | 6 => rfl
  | 7 => rfl
  | k + 8 => simp [va_up, srcG]
theorem srcG_7 {fed total pos lim idp : Nat} {fk fp : Int32} {z : Int32} : va_up (srcG fed total pos lim idp fk fp) 7 (.int z) = srcG fed total pos lim idp fk z := by
  funext k
  match k with
  | 0 => rfl
  | 1 => rfl
  | 2 => rfl
  | 3 => rfl
  | 4 => rfl
  | 5 => rfl
  | 6 => rfl
  | 7 => rfl
  | k + 8 => simp [va_up, srcG]
/-- the byte at j, as the code sees it -/
abbrev by8 (fb : Nat → Int32) : Nat → Int32 := fun j => fb j &&& 255
abbrev IAE : String := "java/lang/IllegalArgumentException"
section SRC
variable {X : Nat × (Nat → Int32)} {d : Nat} {S : am_S} {fed total pos lim idp : Nat} {fk fp : Int32} {fb : Nat → Int32}
theorem s_fail (a b : Int32) (h : am_get S 1 = some (src fed total pos lim idp fk fp)) : ev X (d + 1) 44 [.ref 1, .int a, .int b] S (fun r => r = (.inr IAE, am_thrown (am_upd S 1 (src fed total pos lim idp a b)))) := by
  have h1 := c44 X d a b h
  rw [srcG_6, srcG_7] at h1
  exact h1
theorem s_byteAt {p : Nat} (h : am_get S 1 = some (src fed total pos lim idp fk fp)) (hB : am_get S 2 = some (.inl (2, 960, .inl fb))) (hp : p < 960) : ev X (d + 1) 45 [.ref 1, .int (nI p)] S (fun r => r = (.inl (some (.int (by8 fb p))), S)) := by
  refine ev_wp (L0 := [some (.ref 1), some (.int (nI p))]) (Nat.le_of_ble_eq_true rfl) rfl ?_
  refine wp_step rfl rfl ?_
  refine wp_getg rfl h (by decide) rfl ?_
  refine wp_step rfl rfl ?_
  refine wp_ald rfl (Or.inr (Or.inl ⟨rfl, rfl⟩)) (by decide) hB (am_in_nI hp (by decide)) ?_
  rw [nI_clamp (by omega)]
  refine wp_step rfl rfl ?_
  refine wp_step rfl rfl ?_
  exact wp_iret rfl rfl rfl rfl

/-- a number, in full -/
def num9 (B : Nat → Int32) (lim p : Nat) : Option (Int64 × Nat) := cnum B lim 9 0 p 0
theorem cnum_pos {B : Nat → Int32} {lim : Nat} : ∀ (n k p : Nat) (v v' : Int64) (p' : Nat), cnum B lim n k p v = some (v', p') → p < p' ∧ p' ≤ lim ∧ p' ≤ p + n := by
  intro n
  induction n with
  | zero => intro k p v v' p' h; cases h
  | succ n ih =>
    intro k p v v' p' h
    simp only [cnum] at h
    split at h
    · cases h
    · split at h
      · cases h; omega
      · have h1 := ih _ _ _ _ _ h
        omega
theorem num9_pos {B : Nat → Int32} {lim p p' : Nat} {v : Int64} (h : num9 B lim p = some (v, p')) : p < p' ∧ p' ≤ lim := by
  have h1 := cnum_pos _ _ _ _ _ _ h
  exact ⟨h1.1, h1.2.1⟩
theorem s_number (h : am_get S 1 = some (src fed total pos lim idp fk fp)) (hB : am_get S 2 = some (.inl (2, 960, .inl fb))) (hl : lim ≤ 960) (hp : pos ≤ 960) :
    ev X (d + 2) 49 [.ref 1] S (fun r => (∃ v p', num9 (by8 fb) lim pos = some (v, p') ∧ r = (.inl (some (.long v)), am_upd S 1 (src fed total p' lim idp fk fp))) ∨ (num9 (by8 fb) lim pos = none ∧ ∃ q, q ≤ 960 ∧ r = (.inr IAE, am_thrown (am_upd S 1 (src fed total q lim idp 2 (nI pos)))))) := by
  refine ev_wp (L0 := [some (.ref 1), none, none, none, none, none]) (Nat.le_of_ble_eq_true rfl) rfl ?_
  refine wp_step rfl rfl ?_
  refine wp_getg rfl h (by decide) rfl ?_
  refine wp_step rfl rfl ?_
  refine wp_step rfl rfl ?_
  refine wp_step rfl rfl ?_
  refine wp_step rfl rfl ?_
  refine wp_step rfl rfl ?_
  refine number_loop X d (bo := 2) (by decide) hl (by decide) 8 0 pos 0 none S _ rfl h hB rfl rfl rfl hp (fun v' p' h9 => Or.inl ⟨v', p', h9, ?_⟩) (fun h9 q hq => Or.inr ⟨h9, q, hq, ?_⟩)
  · rw [srcG_3]
  · rw [srcG_3, srcG_6, srcG_7]
/-- a count, length, place or id -/
def cnt (B : Nat → Int32) (lim p : Nat) : Option (Nat × Nat) := match num9 B lim p with
  | some (v, p') => if v < 0 ∨ 2147483648 ≤ v then none else some (v.toInt.toNat, p')
  | none => none
theorem l2i_nat {v : Int64} (h0 : ¬ v < 0) (h1 : ¬ 2147483648 ≤ v) : v.toInt32 = nI v.toInt.toNat ∧ v.toInt.toNat < 2 ^ 31 := by
  obtain ⟨k, hk, rfl⟩ := pk_lOf h0
  have e : (lN k).toInt = (k : Int) := pk_lT hk
  rw [lN_i, e]
  have h2 : ¬ lN 2147483648 ≤ lN k := h1
  rw [pk_lLE (by decide) hk] at h2
  exact ⟨by simp, by simp; omega⟩
theorem cnt_lt {B : Nat → Int32} {lim p n p' : Nat} (h : cnt B lim p = some (n, p')) : n < 2 ^ 31 ∧ p < p' ∧ p' ≤ lim := by
  unfold cnt at h
  split at h
  · rename_i v q hv
    split at h
    · cases h
    · rename_i hc
      cases h
      exact ⟨(l2i_nat (fun h9 => hc (Or.inl h9)) (fun h9 => hc (Or.inr h9))).2, num9_pos hv⟩
  · cases h
theorem lc_neg {v : Int64} {t : Bool} (h : am_c1 .lt (lg_cmp v 0) = t) : (v < 0 ↔ t = true) := by
  unfold am_c1 at h
  rw [← h, decide_eq_true_iff]
  exact (lg_cmp_lt v 0).symm
end SRC
end
section
/-! Source's reading methods -/
section SRC2
variable {X : Nat × (Nat → Int32)} {d : Nat} {S : am_S} {fed total pos lim idp : Nat} {fk fp : Int32} {fb : Nat → Int32}
theorem s_count (h : am_get S 1 = some (src fed total pos lim idp fk fp)) (hB : am_get S 2 = some (.inl (2, 960, .inl fb))) (hl : lim ≤ 960) (hp : pos ≤ 960) :
    ev X (d + 3) 50 [.ref 1] S (fun r => (∃ n p', cnt (by8 fb) lim pos = some (n, p') ∧ r = (.inl (some (.int (nI n))), am_upd S 1 (src fed total p' lim idp fk fp))) ∨ (cnt (by8 fb) lim pos = none ∧ ∃ q, q ≤ 960 ∧ r = (.inr IAE, am_thrown (am_upd S 1 (src fed total q lim idp 2 (nI pos)))))) := by
  refine ev_wp (L0 := [some (.ref 1), none, none, none]) (Nat.le_of_ble_eq_true rfl) rfl ?_
  refine wp_step rfl rfl ?_
  refine wp_getg rfl h (by decide) rfl ?_
  refine wp_step rfl rfl ?_
  refine wp_step rfl rfl ?_
  refine wp_call rfl rfl (by decide) rfl (recv_ok h rfl) (s_number h hB hl hp) (fun v T hq => ?_) (fun E T hq => ?_)
  · rcases hq with ⟨v', p', hn, e⟩ | ⟨-, q, -, e⟩
    · cases e
      have hpp := num9_pos hn
      have bad : (v' < 0 ∨ 2147483648 ≤ v') → wp X (d + 2) 50 24 [some (.ref 1), some (.int (nI pos)), some (.long v'), none] [] (am_upd S 1 (src fed total p' lim idp fk fp)) (fun r => (∃ n p', cnt (by8 fb) lim pos = some (n, p') ∧ r = (.inl (some (.int (nI n))), am_upd S 1 (src fed total p' lim idp fk fp))) ∨ (cnt (by8 fb) lim pos = none ∧ ∃ q, q ≤ 960 ∧ r = (.inr IAE, am_thrown (am_upd S 1 (src fed total q lim idp 2 (nI pos)))))) := by
        intro hbad
        refine wp_step rfl rfl ?_
        refine wp_step rfl rfl ?_
        refine wp_step rfl rfl ?_
        refine wp_call rfl rfl (by decide) rfl (recv_ok (am_get_self h) rfl) (ev_up (by omega) (s_fail (d := 0) _ _ (am_get_self h))) (fun v T hq => by cases hq) (fun E T hq => ?_)
        cases hq
        refine Or.inl ⟨rfl, Or.inr ⟨?_, p', by omega, ?_⟩⟩
        · unfold cnt; rw [hn]; exact if_pos hbad
        · rw [am_upd_upd]; rfl
      refine wp_step rfl rfl ?_
      refine wp_step rfl rfl ?_
      refine wp_step rfl rfl ?_
      refine wp_step rfl rfl ?_
      refine wp_if rfl (fun c1 => ?_) (fun c1 => ?_)
      · exact bad (Or.inl ((lg_cmp_lt v' 0).mp (of_decide_eq_true c1)))
      · have h0 : ¬ v' < 0 := fun h9 => of_decide_eq_false c1 ((lg_cmp_lt v' 0).mpr h9)
        refine wp_step rfl rfl ?_
        refine wp_step rfl rfl ?_
        refine wp_step rfl rfl ?_
        refine wp_if rfl (fun c2 => ?_) (fun c2 => ?_)
        · have h1 : v' < 2147483648 := (lg_cmp_lt v' 2147483648).mp (of_decide_eq_true c2)
          have h1 : ¬ 2147483648 ≤ v' := fun h9 => absurd h1 (Int64.not_lt.mpr h9)
          refine wp_step rfl rfl ?_
          refine wp_step rfl rfl ?_
          refine wp_iret rfl rfl rfl (Or.inl ⟨v'.toInt.toNat, p', ?_, ?_⟩)
          · unfold cnt; rw [hn]; exact if_neg (fun h9 => h9.elim h0 h1)
          · rw [(l2i_nat h0 h1).1]
        · have h1 : ¬ v' < 2147483648 := fun h9 => of_decide_eq_false c2 ((lg_cmp_lt v' 2147483648).mpr h9)
          exact bad (Or.inr (Int64.not_lt.mp h1))
    · cases e
  · rcases hq with ⟨v', p', hn, e⟩ | ⟨hn, q, hq, e⟩
    · cases e
    · cases e
      refine Or.inl ⟨rfl, Or.inr ⟨?_, q, hq, rfl⟩⟩
      unfold cnt; rw [hn]
/-- n bytes at p, the highest first -/
def fx (B : Nat → Int32) (p : Nat) : Nat → Int64
  | 0 => 0
  | i + 1 => (fx B p i <<< ((8 : Int32).toInt64 &&& 63)) ||| (B (p + i)).toInt64
theorem fixedAt_loop {p n : Nat} {Q : am_R → Prop} (h : am_get S 1 = some (src fed total pos lim idp fk fp)) (hB : am_get S 2 = some (.inl (2, 960, .inl fb))) (hpn : p + n ≤ 960) (hQ : Q (.inl (some (.long (fx (by8 fb) p n))), S)) :
    ∀ (m i : Nat), i + m = n → wp X d 46 5 [some (.ref 1), some (.int (nI p)), some (.int (nI n)), some (.long (fx (by8 fb) p i)), none, some (.int (nI i))] [] S Q := by
  intro m
  induction m with
  | zero =>
    intro i hi
    refine wp_step rfl rfl ?_
    refine wp_step rfl rfl ?_
    refine wp_icmp_t rfl (show am_c2 .ge (nI i) (nI n) = true from decide_eq_true (nI_le (by omega) (by omega))) ?_
    refine wp_step rfl rfl ?_
    have e : i = n := by omega
    subst e
    exact wp_lret rfl rfl hQ
  | succ m ih =>
    intro i hi
    refine wp_step rfl rfl ?_
    refine wp_step rfl rfl ?_
    refine wp_icmp_f rfl (show am_c2 .ge (nI i) (nI n) = false from decide_eq_false (nI_ge (by omega) (by omega))) ?_
    refine wp_step rfl rfl ?_
    refine wp_step rfl rfl ?_
    refine wp_step rfl rfl ?_
    refine wp_step rfl rfl ?_
    refine wp_getg rfl h (by decide) rfl ?_
    refine wp_step rfl rfl ?_
    refine wp_step rfl rfl ?_
    refine wp_step rfl rfl ?_
    rw [nI_add]
    refine wp_ald rfl (Or.inr (Or.inl ⟨rfl, rfl⟩)) (by decide) hB (am_in_nI (by omega) (by decide)) ?_
    rw [nI_clamp (by omega)]
    refine wp_step rfl rfl ?_
    refine wp_step rfl rfl ?_
    refine wp_step rfl rfl ?_
    refine wp_step rfl rfl ?_
    refine wp_step rfl rfl ?_
    refine wp_step rfl rfl ?_
    refine wp_step rfl rfl ?_
    rw [show nI i + Int32.ofInt 1 = nI (i + 1) from nI_1 i]
    exact ih (i + 1) (by omega)
theorem s_fixedAt {p n : Nat} (h : am_get S 1 = some (src fed total pos lim idp fk fp)) (hB : am_get S 2 = some (.inl (2, 960, .inl fb))) (hpn : p + n ≤ 960) :
    ev X (d + 1) 46 [.ref 1, .int (nI p), .int (nI n)] S (fun r => r = (.inl (some (.long (fx (by8 fb) p n))), S)) := by
  refine ev_wp (L0 := [some (.ref 1), some (.int (nI p)), some (.int (nI n)), none, none, none]) (Nat.le_of_ble_eq_true rfl) rfl ?_
  refine wp_step rfl rfl ?_
  refine wp_step rfl rfl ?_
  refine wp_step rfl rfl ?_
  refine wp_step rfl rfl ?_
  exact fixedAt_loop (Q := fun r => r = (.inl (some (.long (fx (by8 fb) p n))), S)) h hB hpn rfl n 0 (by omega)
theorem s_fixed {n : Nat} (h : am_get S 1 = some (src fed total pos lim idp fk fp)) (hB : am_get S 2 = some (.inl (2, 960, .inl fb))) (hl : lim ≤ 960) (hp : pos ≤ lim) (hn : n ≤ 960) :
    ev X (d + 2) 47 [.ref 1, .int (nI n)] S (fun r => (pos + n ≤ lim ∧ r = (.inl (some (.long (fx (by8 fb) pos n))), am_upd S 1 (src fed total (pos + n) lim idp fk fp))) ∨ (¬ pos + n ≤ lim ∧ r = (.inr IAE, am_thrown (am_upd S 1 (src fed total pos lim idp 2 (nI pos)))))) := by
  refine ev_wp (L0 := [some (.ref 1), some (.int (nI n)), none]) (Nat.le_of_ble_eq_true rfl) rfl ?_
  refine wp_step rfl rfl ?_
  refine wp_getg rfl h (by decide) rfl ?_
  refine wp_step rfl rfl ?_
  refine wp_step rfl rfl ?_
  refine wp_step rfl rfl ?_
  refine wp_getg rfl h (by decide) rfl ?_
  refine wp_step rfl rfl ?_
  refine wp_step rfl rfl ?_
  rw [pk_sub hp]
  refine wp_icmp rfl (fun c1 => ?_) (fun c1 => ?_)
  · have h1 : n ≤ lim - pos := (nI_leI (by omega) (by omega)).mp (of_decide_eq_true c1)
    refine wp_step rfl rfl ?_
    refine wp_step rfl rfl ?_
    refine wp_step rfl rfl ?_
    refine wp_step rfl rfl ?_
    refine wp_putg rfl h (by decide) rfl rfl ?_
    rw [nI_add, srcG_3]
    refine wp_step rfl rfl ?_
    refine wp_step rfl rfl ?_
    refine wp_step rfl rfl ?_
    refine wp_call rfl rfl (by decide) rfl (recv_ok (am_get_self h) rfl) (s_fixedAt (am_get_self h) (by rw [am_get_ne (by decide)]; exact hB) (by omega)) (fun v T hq => ?_) (fun E T hq => by cases hq)
    cases hq
    exact wp_lret rfl rfl (Or.inl ⟨by omega, rfl⟩)
  · have h1 : ¬ n ≤ lim - pos := fun h9 => of_decide_eq_false c1 ((nI_leI (by omega) (by omega)).mpr h9)
    refine wp_step rfl rfl ?_
    refine wp_step rfl rfl ?_
    refine wp_step rfl rfl ?_
    refine wp_call rfl rfl (by decide) rfl (recv_ok h rfl) (s_fail _ _ h) (fun v T hq => by cases hq) (fun E T hq => ?_)
    cases hq
    exact Or.inl ⟨rfl, Or.inr ⟨by omega, rfl⟩⟩
theorem fx1 (B : Nat → Int32) (p : Nat) : (fx B p 1).toInt32 = B p := by
  have e : fx B p 1 = (B p).toInt64 := by
    show ((0 : Int64) <<< _) ||| (B (p + 0)).toInt64 = _
    rw [Nat.add_zero]
    apply Int64.toBitVec_inj.mp
    simp
  rw [e]
  exact Int32.toInt32_toInt64 _
theorem s_oneByte (h : am_get S 1 = some (src fed total pos lim idp fk fp)) (hB : am_get S 2 = some (.inl (2, 960, .inl fb))) (hl : lim ≤ 960) (hp : pos ≤ lim) :
    ev X (d + 3) 48 [.ref 1] S (fun r => (pos < lim ∧ r = (.inl (some (.int (by8 fb pos))), am_upd S 1 (src fed total (pos + 1) lim idp fk fp))) ∨ (¬ pos < lim ∧ r = (.inr IAE, am_thrown (am_upd S 1 (src fed total pos lim idp 2 (nI pos)))))) := by
  refine ev_wp (L0 := [some (.ref 1)]) (Nat.le_of_ble_eq_true rfl) rfl ?_
  refine wp_step rfl rfl ?_
  refine wp_step rfl rfl ?_
  refine wp_call rfl rfl (by decide) rfl (recv_ok h rfl) (s_fixed (n := 1) h hB hl hp (by decide)) (fun v T hq => ?_) (fun E T hq => ?_)
  · rcases hq with ⟨h1, e⟩ | ⟨h1, e⟩
    · cases e
      refine wp_step rfl rfl ?_
      rw [fx1]
      exact wp_iret rfl rfl rfl (Or.inl ⟨by omega, rfl⟩)
    · cases e
  · rcases hq with ⟨h1, e⟩ | ⟨h1, e⟩
    · cases e
    · cases e
      exact Or.inl ⟨rfl, Or.inr ⟨by omega, rfl⟩⟩
theorem s_eventEnd (h : am_get S 1 = some (src fed total pos lim idp fk fp)) (hl : lim ≤ 960) (hp : pos ≤ 960) :
    ev X (d + 2) 52 [.ref 1] S (fun r => (lim ≤ pos ∧ r = (.inl none, S)) ∨ (pos < lim ∧ r = (.inr IAE, am_thrown (am_upd S 1 (src fed total pos lim idp 5 (nI pos)))))) := by
  refine ev_wp (L0 := [some (.ref 1)]) (Nat.le_of_ble_eq_true rfl) rfl ?_
  refine wp_step rfl rfl ?_
  refine wp_getg rfl h (by decide) rfl ?_
  refine wp_step rfl rfl ?_
  refine wp_getg rfl h (by decide) rfl ?_
  refine wp_icmp rfl (fun c1 => ?_) (fun c1 => ?_)
  · have h1 : lim ≤ pos := (nI_leI (by omega) (by omega)).mp (of_decide_eq_true c1)
    exact wp_vret rfl rfl (Or.inl ⟨h1, rfl⟩)
  · have h1 : ¬ lim ≤ pos := fun h9 => of_decide_eq_false c1 ((nI_leI (by omega) (by omega)).mpr h9)
    refine wp_step rfl rfl ?_
    refine wp_step rfl rfl ?_
    refine wp_step rfl rfl ?_
    refine wp_getg rfl h (by decide) rfl ?_
    refine wp_call rfl rfl (by decide) rfl (recv_ok h rfl) (s_fail _ _ h) (fun v T hq => by cases hq) (fun E T hq => ?_)
    cases hq
    exact Or.inl ⟨rfl, Or.inr ⟨by omega, rfl⟩⟩
theorem s_rewind (h : am_get S 1 = some (src fed total pos lim idp fk fp)) :
    ev X (d + 1) 43 [.ref 1] S (fun r => r = (.inl (some (.int (nI fed))), am_upd S 1 (src 0 fed pos lim idp 0 (-1)))) := by
  refine ev_wp (L0 := [some (.ref 1)]) (Nat.le_of_ble_eq_true rfl) rfl ?_
  refine wp_step rfl rfl ?_
  refine wp_step rfl rfl ?_
  refine wp_getg (v := .int (nI fed)) rfl h (by decide) rfl ?_
  refine wp_putg rfl h (by decide) rfl rfl ?_
  rw [srcG_2]
  refine wp_step rfl rfl ?_
  refine wp_step rfl rfl ?_
  refine wp_putg rfl (am_get_self h) (by decide) rfl rfl ?_
  rw [am_upd_upd, show Int32.ofInt 0 = nI 0 from rfl, srcG_1]
  refine wp_step rfl rfl ?_
  refine wp_step rfl rfl ?_
  refine wp_putg rfl (am_get_self h) (by decide) rfl rfl ?_
  rw [am_upd_upd, srcG_6]
  refine wp_step rfl rfl ?_
  refine wp_step rfl rfl ?_
  refine wp_putg rfl (am_get_self h) (by decide) rfl rfl ?_
  rw [am_upd_upd, srcG_7]
  refine wp_step rfl rfl ?_
  refine wp_getg rfl (am_get_self h) (by decide) rfl ?_
  exact wp_iret rfl rfl rfl rfl
end SRC2
end
section
/-! an event's head: length and type -/
def hd (B : Nat → Int32) (start cend : Nat) : (Int32 × Nat) ⊕ (Nat × Nat × Nat × Nat) := match cnt B cend start with
  | none => .inl (2, start)
  | some (len, p1) => if len < 2 ∨ cend - start < len then .inl (5, start) else (match cnt B cend p1 with
    | none => .inl (2, p1)
    | some (id, p2) => if start + len < p2 then .inl (2, p1) else .inr (len, id, p1, p2))
section SRC3
variable {X : Nat × (Nat → Int32)} {d : Nat} {S : am_S} {fed total pos lim idp start cend : Nat} {fk fp : Int32} {fb : Nat → Int32}
theorem s_head (h : am_get S 1 = some (src fed total pos lim idp fk fp)) (hB : am_get S 2 = some (.inl (2, 960, .inl fb))) (hs : start ≤ cend) (hc : cend ≤ 960) (hi : idp ≤ 960) :
    ev X (d + 4) 51 [.ref 1, .int (nI start), .int (nI cend)] S (fun r => (∃ len id p1 p2, hd (by8 fb) start cend = .inr (len, id, p1, p2) ∧ r = (.inl (some (.int (nI id))), am_upd S 1 (src fed total p2 (start + len) p1 fk fp))) ∨ (∃ k pl, hd (by8 fb) start cend = .inl (k, pl) ∧ ∃ q l i, q ≤ 960 ∧ l ≤ 960 ∧ i ≤ 960 ∧ r = (.inr IAE, am_thrown (am_upd S 1 (src fed total q l i k (nI pl)))))) := by
  refine ev_wp (L0 := [some (.ref 1), some (.int (nI start)), some (.int (nI cend)), none, none]) (Nat.le_of_ble_eq_true rfl) rfl ?_
  refine wp_step rfl rfl ?_
  refine wp_step rfl rfl ?_
  refine wp_putg rfl h (by decide) rfl rfl ?_
  rw [srcG_3]
  refine wp_step rfl rfl ?_
  refine wp_step rfl rfl ?_
  refine wp_putg rfl (am_get_self h) (by decide) rfl rfl ?_
  rw [am_upd_upd, srcG_4]
  refine wp_step rfl rfl ?_
  have h1 : am_get (am_upd S 1 (src fed total start cend idp fk fp)) 1 = some (src fed total start cend idp fk fp) := am_get_self h
  have hB1 : ∀ x, am_get (am_upd S 1 x) 2 = some (.inl (2, 960, .inl fb)) := fun x => by rw [am_get_ne (by decide)]; exact hB
  refine wp_call rfl rfl (by decide) rfl (recv_ok h1 rfl) (s_count h1 (hB1 _) hc (by omega)) (fun v T hq => ?_) (fun E T hq => ?_)
  · rcases hq with ⟨len, p1, hn, e⟩ | ⟨-, q, -, e⟩
    · cases e
      rw [am_upd_upd]
      obtain ⟨hl31, hp1, hp1c⟩ := cnt_lt hn
      have h2 : ∀ p i, am_get (am_upd S 1 (src fed total p cend i fk fp)) 1 = some (src fed total p cend i fk fp) := fun p i => am_get_self h
      have bad : (len < 2 ∨ cend - start < len) → wp X (d + 3) 51 27 [some (.ref 1), some (.int (nI start)), some (.int (nI cend)), some (.int (nI len)), none] [] (am_upd S 1 (src fed total p1 cend idp fk fp)) (fun r => (∃ len id p1 p2, hd (by8 fb) start cend = .inr (len, id, p1, p2) ∧ r = (.inl (some (.int (nI id))), am_upd S 1 (src fed total p2 (start + len) p1 fk fp))) ∨ (∃ k pl, hd (by8 fb) start cend = .inl (k, pl) ∧ ∃ q l i, q ≤ 960 ∧ l ≤ 960 ∧ i ≤ 960 ∧ r = (.inr IAE, am_thrown (am_upd S 1 (src fed total q l i k (nI pl)))))) := by
        intro hbad
        refine wp_step rfl rfl ?_
        refine wp_step rfl rfl ?_
        refine wp_step rfl rfl ?_
        refine wp_call rfl rfl (by decide) rfl (recv_ok (h2 _ _) rfl) (ev_up (by omega) (s_fail (d := 0) _ _ (h2 _ _))) (fun v T hq => by cases hq) (fun E T hq => ?_)
        cases hq
        refine Or.inl ⟨rfl, Or.inr ⟨5, start, ?_, p1, cend, idp, by omega, by omega, hi, ?_⟩⟩
        · unfold hd; rw [hn]; exact if_pos hbad
        · rw [am_upd_upd]; rfl
      refine wp_step rfl rfl ?_
      refine wp_step rfl rfl ?_
      refine wp_step rfl rfl ?_
      refine wp_icmp rfl (fun c1 => ?_) (fun c1 => ?_)
      · exact bad (Or.inl ((nI_ltI hl31 (by decide)).mp (of_decide_eq_true (show am_c2 .lt (nI len) (nI 2) = true from c1))))
      · have hl2 : ¬ len < 2 := fun h9 => of_decide_eq_false (show am_c2 .lt (nI len) (nI 2) = false from c1) ((nI_ltI hl31 (by decide)).mpr h9)
        refine wp_step rfl rfl ?_
        refine wp_step rfl rfl ?_
        refine wp_step rfl rfl ?_
        refine wp_step rfl rfl ?_
        rw [pk_sub hs]
        refine wp_icmp rfl (fun c2 => ?_) (fun c2 => ?_)
        · have hle : len ≤ cend - start := (nI_leI hl31 (by omega)).mp (of_decide_eq_true c2)
          refine wp_step rfl rfl ?_
          refine wp_step rfl rfl ?_
          refine wp_getg (v := .int (nI p1)) rfl (h2 _ _) (by decide) rfl ?_
          refine wp_putg rfl (h2 _ _) (by decide) rfl rfl ?_
          rw [am_upd_upd, srcG_5]
          refine wp_step rfl rfl ?_
          refine wp_call rfl rfl (by decide) rfl (recv_ok (h2 _ _) rfl) (s_count (h2 _ _) (hB1 _) hc (by omega)) (fun v T hq => ?_) (fun E T hq => ?_)
          · rcases hq with ⟨id, p2, hn2, e⟩ | ⟨-, q, -, e⟩
            · cases e
              rw [am_upd_upd]
              obtain ⟨hi31, hp2, hp2c⟩ := cnt_lt hn2
              refine wp_step rfl rfl ?_
              refine wp_step rfl rfl ?_
              refine wp_getg (v := .int (nI p2)) rfl (h2 _ _) (by decide) rfl ?_
              refine wp_step rfl rfl ?_
              refine wp_step rfl rfl ?_
              refine wp_step rfl rfl ?_
              rw [nI_add]
              refine wp_icmp rfl (fun c3 => ?_) (fun c3 => ?_)
              · have hle2 : p2 ≤ start + len := (nI_leI (by omega) (by omega)).mp (of_decide_eq_true c3)
                refine wp_step rfl rfl ?_
                refine wp_step rfl rfl ?_
                refine wp_step rfl rfl ?_
                refine wp_step rfl rfl ?_
                rw [nI_add]
                refine wp_putg rfl (h2 _ _) (by decide) rfl rfl ?_
                rw [am_upd_upd, srcG_4]
                refine wp_step rfl rfl ?_
                refine wp_iret rfl rfl rfl (Or.inl ⟨len, id, p1, p2, ?_, rfl⟩)
                unfold hd
                rw [hn]
                dsimp only
                rw [if_neg (by omega), hn2]
                exact if_neg (by omega)
              · have hle2 : ¬ p2 ≤ start + len := fun h9 => of_decide_eq_false c3 ((nI_leI (by omega) (by omega)).mpr h9)
                refine wp_step rfl rfl ?_
                refine wp_step rfl rfl ?_
                refine wp_step rfl rfl ?_
                refine wp_getg (v := .int (nI p1)) rfl (h2 _ _) (by decide) rfl ?_
                refine wp_call rfl rfl (by decide) rfl (recv_ok (h2 _ _) rfl) (ev_up (by omega) (s_fail (d := 0) _ _ (h2 _ _))) (fun v T hq => by cases hq) (fun E T hq => ?_)
                cases hq
                refine Or.inl ⟨rfl, Or.inr ⟨2, p1, ?_, p2, cend, p1, by omega, by omega, by omega, ?_⟩⟩
                · unfold hd
                  rw [hn]
                  dsimp only
                  rw [if_neg (by omega), hn2]
                  exact if_pos (by omega)
                · rw [am_upd_upd]; rfl
            · cases e
          · rcases hq with ⟨id, p2, hn2, e⟩ | ⟨hn2, q, hq, e⟩
            · cases e
            · cases e
              refine Or.inl ⟨rfl, Or.inr ⟨2, p1, ?_, q, cend, p1, hq, by omega, by omega, ?_⟩⟩
              · unfold hd
                rw [hn]
                dsimp only
                rw [if_neg (by omega), hn2]
              · rw [am_upd_upd]
        · have hle : ¬ len ≤ cend - start := fun h9 => of_decide_eq_false c2 ((nI_leI hl31 (by omega)).mpr h9)
          exact bad (Or.inr (by omega))
    · cases e
  · rcases hq with ⟨len, p1, hn, e⟩ | ⟨hn, q, hq, e⟩
    · cases e
    · cases e
      refine Or.inl ⟨rfl, Or.inr ⟨2, start, ?_, q, cend, idp, hq, by omega, hi, ?_⟩⟩
      · unfold hd; rw [hn]
      · rw [am_upd_upd]
end SRC3
end
section
/-! FlightReaderModel: the byte reader -/
abbrev mod (g : Nat → Value) : am_C := ob 10 58 g
/-- the side's bytes -/
abbrev mB (mb : Nat → Int32) (w : Nat) : Nat → Int32 := fun p => mb (960 * w + p)
theorem c1_ne0 {x : Int32} (h : x ≠ 0) : am_c1 .ne x = true := decide_eq_true h
theorem c1_eq0 {x : Int32} (h : x ≠ 0) : am_c1 .eq x = false := decide_eq_false h
section MOD1
variable {X : Nat × (Nat → Int32)} {d : Nat} {S : am_S} {g : Nat → Value} {mb : Nat → Int32} {w p lim : Nat}
theorem m_get (h : am_get S 408 = some (mod g)) (hb : am_get S 410 = some (.inl (0, 1920, .inl mb))) (g4 : g 4 = .ref 410) (g19 : g 19 = .int (nI w)) (hw : w ≤ 1) (hp : p < 960) :
    ev X (d + 1) 95 [.ref 408, .int (nI p)] S (fun r => r = (.inl (some (.int (mB mb w p))), S)) := by
  refine ev_wp (L0 := [some (.ref 408), some (.int (nI p))]) (Nat.le_of_ble_eq_true rfl) rfl ?_
  refine wp_step rfl rfl ?_
  refine wp_getg rfl h (by decide) g4 ?_
  refine wp_step rfl rfl ?_
  refine wp_step rfl rfl ?_
  refine wp_getg rfl h (by decide) g19 ?_
  refine wp_step rfl rfl ?_
  refine wp_step rfl rfl ?_
  refine wp_step rfl rfl ?_
  rw [show (Int16.ofInt 960).toInt32 * nI w + nI p = nI (960 * w + p) by rw [show (Int16.ofInt 960).toInt32 = nI 960 from rfl, pk_mul, nI_add]]
  refine wp_ald rfl (Or.inl ⟨rfl, rfl⟩) (by decide) hb (am_in_nI (by omega) (by decide)) ?_
  rw [nI_clamp (by omega)]
  exact wp_iret rfl rfl rfl rfl
theorem m_wrong0 (a b : Int32) (h : am_get S 408 = some (mod g)) (g25 : g 25 = .int 0) :
    ev X (d + 1) 96 [.ref 408, .int a, .int b] S (fun r => r = (.inl none, am_upd S 408 (mod (va_up (va_up g 26 (.int b)) 25 (.int a))))) := by
  refine ev_wp (L0 := [some (.ref 408), some (.int a), some (.int b)]) (Nat.le_of_ble_eq_true rfl) rfl ?_
  refine wp_step rfl rfl ?_
  refine wp_getg rfl h (by decide) g25 ?_
  refine wp_if_f rfl (by decide) ?_
  refine wp_step rfl rfl ?_
  refine wp_step rfl rfl ?_
  refine wp_putg rfl h (by decide) rfl rfl ?_
  refine wp_step rfl rfl ?_
  refine wp_step rfl rfl ?_
  refine wp_getg (v := .int 0) rfl (am_get_self h) (by decide) g25 ?_
  refine wp_if_f rfl (by decide) ?_
  refine wp_step rfl rfl ?_
  refine wp_step rfl rfl ?_
  refine wp_putg rfl (am_get_self h) (by decide) rfl rfl ?_
  rw [am_upd_upd]
  exact wp_vret rfl rfl rfl
theorem m_wrong1 (a b : Int32) {f : Int32} (h : am_get S 408 = some (mod g)) (g25 : g 25 = .int f) (hf : f ≠ 0) :
    ev X (d + 1) 96 [.ref 408, .int a, .int b] S (fun r => r = (.inl none, S)) := by
  refine ev_wp (L0 := [some (.ref 408), some (.int a), some (.int b)]) (Nat.le_of_ble_eq_true rfl) rfl ?_
  refine wp_step rfl rfl ?_
  refine wp_getg rfl h (by decide) g25 ?_
  refine wp_if_t rfl (c1_ne0 hf) ?_
  refine wp_step rfl rfl ?_
  refine wp_step rfl rfl ?_
  refine wp_getg rfl h (by decide) g25 ?_
  refine wp_if_t rfl (c1_ne0 hf) ?_
  refine wp_step rfl rfl ?_
  refine wp_getg rfl h (by decide) g25 ?_
  refine wp_putg rfl h (by decide) rfl rfl ?_
  rw [va_up_id g25, am_upd_same h]
  exact wp_vret rfl rfl rfl
theorem m_next0 (h : am_get S 408 = some (mod g)) (hb : am_get S 410 = some (.inl (0, 1920, .inl mb))) (g4 : g 4 = .ref 410) (g19 : g 19 = .int (nI w)) (hw : w ≤ 1) (g21 : g 21 = .int (nI p)) (g22 : g 22 = .int (nI lim)) (g25 : g 25 = .int 0) (hp : p ≤ 960) (hl : lim ≤ 960) :
    ev X (d + 2) 97 [.ref 408] S (fun r => (p < lim ∧ r = (.inl (some (.int (mB mb w p))), am_upd S 408 (mod (va_up g 21 (.int (nI (p + 1))))))) ∨ (¬ p < lim ∧ r = (.inl (some (.int 0)), am_upd S 408 (mod (va_up (va_up g 26 (.int (nI p))) 25 (.int 2)))))) := by
  refine ev_wp (L0 := [some (.ref 408)]) (Nat.le_of_ble_eq_true rfl) rfl ?_
  refine wp_step rfl rfl ?_
  refine wp_getg rfl h (by decide) g21 ?_
  refine wp_step rfl rfl ?_
  refine wp_getg rfl h (by decide) g22 ?_
  refine wp_icmp rfl (fun c1 => ?_) (fun c1 => ?_)
  · have hpl : p < lim := (c2_lt (by omega) (by omega) c1).mpr rfl
    refine wp_step rfl rfl ?_
    refine wp_getg rfl h (by decide) g25 ?_
    refine wp_if_t rfl (by decide) ?_
    refine wp_step rfl rfl ?_
    refine wp_step rfl rfl ?_
    refine wp_getg rfl h (by decide) g21 ?_
    refine wp_step rfl rfl ?_
    refine wp_step rfl rfl ?_
    rw [show nI p + Int32.ofInt 1 = nI (p + 1) from nI_1 p]
    refine wp_putg rfl h (by decide) rfl rfl ?_
    refine wp_step rfl rfl ?_
    refine wp_step rfl rfl ?_
    refine wp_getg (v := .int (nI (p + 1))) rfl (am_get_self h) (by decide) rfl ?_
    refine wp_step rfl rfl ?_
    refine wp_step rfl rfl ?_
    rw [show nI (p + 1) - Int32.ofInt 1 = nI p from nI_pred p]
    refine wp_call rfl rfl (by decide) rfl (recv_ok (am_get_self h) rfl) (m_get (am_get_self h) (by rw [am_get_ne (by decide)]; exact hb) g4 g19 hw (by omega)) (fun v T hq => ?_) (fun E T hq => by cases hq)
    cases hq
    exact wp_iret rfl rfl rfl (Or.inl ⟨hpl, rfl⟩)
  · have hpl : ¬ p < lim := fun h9 => by have h8 := (c2_lt (by omega) (by omega) c1).mp h9; cases h8
    refine wp_step rfl rfl ?_
    refine wp_step rfl rfl ?_
    refine wp_step rfl rfl ?_
    refine wp_getg rfl h (by decide) g21 ?_
    refine wp_call rfl rfl (by decide) rfl (recv_ok h rfl) (m_wrong0 _ _ h g25) (fun v T hq => ?_) (fun E T hq => by cases hq)
    cases hq
    refine wp_step rfl rfl ?_
    refine wp_getg (v := .int (Int32.ofInt 2)) rfl (am_get_self h) (by decide) rfl ?_
    refine wp_if_f rfl (by decide) ?_
    refine wp_step rfl rfl ?_
    exact wp_iret rfl rfl rfl (Or.inr ⟨hpl, rfl⟩)
theorem m_next1 {f : Int32} (h : am_get S 408 = some (mod g)) (g21 : g 21 = .int (nI p)) (g22 : g 22 = .int (nI lim)) (g25 : g 25 = .int f) (hf : f ≠ 0) :
    ev X (d + 2) 97 [.ref 408] S (fun r => r = (.inl (some (.int 0)), S)) := by
  refine ev_wp (L0 := [some (.ref 408)]) (Nat.le_of_ble_eq_true rfl) rfl ?_
  have fin : wp X (d + 1) 97 20 [some (.ref 408)] [] S (fun r => r = (.inl (some (.int 0)), S)) := by
    refine wp_step rfl rfl ?_
    refine wp_getg rfl h (by decide) g25 ?_
    refine wp_if_f rfl (c1_eq0 hf) ?_
    refine wp_step rfl rfl ?_
    exact wp_iret rfl rfl rfl rfl
  refine wp_step rfl rfl ?_
  refine wp_getg rfl h (by decide) g21 ?_
  refine wp_step rfl rfl ?_
  refine wp_getg rfl h (by decide) g22 ?_
  refine wp_icmp rfl (fun c1 => fin) (fun c1 => ?_)
  refine wp_step rfl rfl ?_
  refine wp_step rfl rfl ?_
  refine wp_step rfl rfl ?_
  refine wp_getg rfl h (by decide) g21 ?_
  refine wp_call rfl rfl (by decide) rfl (recv_ok h rfl) (m_wrong1 _ _ h g25 hf) (fun v T hq => ?_) (fun E T hq => by cases hq)
  cases hq
  exact fin
end MOD1
end
section
/-! FlightReaderModel: numbers -/
/-- every byte of a side is one -/
def bytesOK (B : Nat → Int32) : Prop := ∀ j, j < 960 → ∃ n, n < 256 ∧ B j = nI n
theorem and127 {x : Int32} {n : Nat} (hx : x = nI n) (hn : n < 256) (h : x < 128) : x &&& 127 = x := by
  subst hx
  have h1 : n < 128 := (nI_ltI (by omega) (by decide)).mp (show nI n < nI 128 from h)
  rw [pk_andN (by omega) 7 rfl, Nat.mod_eq_of_lt (by omega)]
theorem c2_ge {a b : Nat} (ha : a < 2 ^ 31) (hb : b < 2 ^ 31) {t : Bool} (h : am_c2 .ge (nI a) (nI b) = t) : (b ≤ a ↔ t = true) := by
  unfold am_c2 at h
  rw [← h, decide_eq_true_iff, nI_leI hb ha]
section MOD2
variable {X : Nat × (Nat → Int32)} {d : Nat} {S : am_S} {g : Nat → Value} {mb : Nat → Int32} {w p p0 lim : Nat} {Q : am_R → Prop}
theorem comp_out {L5 x6 : Option Value} {v : Int64} {m4 : Option Value} {x1 : Option Value} (hQ : Q (.inl (some (.long v)), S)) : wp X d 98 126 [some (.ref 408), x1, some (.long v), none, m4, L5, x6] [] S Q := by
  refine wp_step rfl rfl ?_
  exact wp_lret rfl rfl hQ
set_option maxHeartbeats 1000000 in
theorem comp_turn (hw : w ≤ 1) (hl : lim ≤ 960) (hbs : bytesOK (mB mb w)) {n k : Nat} {v : Int64} {x6 : Option Value} (hk : k + n = 8) (h : am_get S 408 = some (mod g)) (hb : am_get S 410 = some (.inl (0, 1920, .inl mb))) (g4 : g 4 = .ref 410) (g19 : g 19 = .int (nI w)) (g21 : g 21 = .int (nI p)) (g22 : g 22 = .int (nI lim)) (g25 : g 25 = .int 0) (hp : p ≤ 960)
    (hret : ∀ v' p', cnum (mB mb w) lim (n + 1) k p v = some (v', p') → Q (.inl (some (.long v')), am_upd S 408 (mod (va_up g 21 (.int (nI p'))))))
    (hthr : cnum (mB mb w) lim (n + 1) k p v = none → ∀ (v' : Int64) (q : Nat), q ≤ 960 → Q (.inl (some (.long v')), am_upd S 408 (mod (va_up (va_up (va_up g 21 (.int (nI q))) 26 (.int (nI p0))) 25 (.int 2)))))
    (hnext : ∀ x6, k < 8 → p < lim → ¬ mB mb w p < 128 → wp X (d + 1) 98 13 [some (.ref 408), some (.int (nI p0)), some (.long (v ||| ((mB mb w p &&& 127).toInt64 <<< ((nI (7 * k)).toInt64 &&& 63)))), none, some (.int 1), some (.int (nI (k + 1))), x6] [] (am_upd S 408 (mod (va_up g 21 (.int (nI (p + 1)))))) Q) :
    wp X (d + 1) 98 13 [some (.ref 408), some (.int (nI p0)), some (.long (v)), none, some (.int 1), some (.int (nI (k))), x6] [] S Q := by
  refine wp_step rfl rfl ?_
  refine wp_step rfl rfl ?_
  refine wp_icmp_f rfl (show am_c2 .ge (nI k) (nI 9) = false from decide_eq_false (nI_ge (by omega) (by decide))) ?_
  refine wp_step rfl rfl ?_
  refine wp_if_f rfl (by decide) ?_
  refine wp_step rfl rfl ?_
  refine wp_getg rfl h (by decide) g25 ?_
  refine wp_if_f rfl (by decide) ?_
  refine wp_step rfl rfl ?_
  refine wp_getg rfl h (by decide) g21 ?_
  refine wp_step rfl rfl ?_
  refine wp_getg rfl h (by decide) g22 ?_
  refine wp_icmp rfl (fun c1 => ?_) (fun c1 => ?_)
  · have hpl : p < lim := (c2_lt (by omega) (by omega) c1).mpr rfl
    refine wp_step rfl rfl ?_
    refine wp_step rfl rfl ?_
    refine wp_getg rfl h (by decide) g21 ?_
    refine wp_call rfl rfl (by decide) rfl (recv_ok h rfl) (m_get h hb g4 g19 hw (by omega)) (fun v9 T hq => ?_) (fun E T hq => by cases hq)
    cases hq
    refine wp_step rfl rfl ?_
    refine wp_step rfl rfl ?_
    refine wp_step rfl rfl ?_
    refine wp_getg rfl h (by decide) g21 ?_
    refine wp_step rfl rfl ?_
    refine wp_step rfl rfl ?_
    rw [show nI p + Int32.ofInt 1 = nI (p + 1) from nI_1 p]
    refine wp_putg rfl h (by decide) rfl rfl ?_
    refine wp_step rfl rfl ?_
    refine wp_step rfl rfl ?_
    refine wp_step rfl rfl ?_
    obtain ⟨bn, hbn, hbe⟩ := hbs p (by omega)
    -- the end of a turn, with what was read
    have tail : ∀ (u : Int64), (8 ≤ k ∨ mB mb w p < 128 → u = v ||| ((mB mb w p).toInt64 <<< ((nI (7 * k)).toInt64 &&& 63))) → (¬ (8 ≤ k ∨ mB mb w p < 128) → u = v ||| ((mB mb w p &&& 127).toInt64 <<< ((nI (7 * k)).toInt64 &&& 63))) →
        wp X (d + 1) 98 99 [some (.ref 408), some (.int (nI p0)), some (.long u), none, some (.int 1), some (.int (nI k)), some (.int (mB mb w p))] [] (am_upd S 408 (mod (va_up g 21 (.int (nI (p + 1)))))) Q := by
      intro u hu1 hu2
      have last : (8 ≤ k ∨ mB mb w p < 128) → wp X (d + 1) 98 117 [some (.ref 408), some (.int (nI p0)), some (.long u), none, some (.int 1), some (.int (nI k)), some (.int (mB mb w p))] [] (am_upd S 408 (mod (va_up g 21 (.int (nI (p + 1)))))) Q := by
        intro hd
        refine wp_step rfl rfl ?_
        refine wp_step rfl rfl ?_
        refine wp_step rfl rfl ?_
        refine wp_step rfl rfl ?_
        rw [show nI k + Int32.ofInt 1 = nI (k + 1) from nI_1 k]
        refine wp_step rfl rfl ?_
        refine wp_step rfl rfl ?_
        have hq : Q (.inl (some (.long u)), am_upd S 408 (mod (va_up g 21 (.int (nI (p + 1)))))) := hret u (p + 1) (by simp only [cnum]; rw [if_neg (by omega), if_pos hd, hu1 hd])
        refine wp_icmp rfl (fun _ => comp_out hq) (fun _ => ?_)
        refine wp_step rfl rfl ?_
        refine wp_if_t rfl (by decide) ?_
        exact comp_out hq
      refine wp_step rfl rfl ?_
      refine wp_step rfl rfl ?_
      refine wp_icmp rfl (fun c2 => ?_) (fun c2 => ?_)
      · exact last (Or.inl ((c2_ge (by omega) (by decide) (show am_c2 .ge (nI k) (nI 8) = true from c2)).mpr rfl))
      · have hk8 : ¬ 8 ≤ k := fun h9 => by have h8 := (c2_ge (by omega) (by decide) (show am_c2 .ge (nI k) (nI 8) = false from c2)).mp h9; cases h8
        refine wp_step rfl rfl ?_
        refine wp_step rfl rfl ?_
        refine wp_icmp rfl (fun c3 => ?_) (fun c3 => ?_)
        · refine last (Or.inr ?_)
          have h9 : mB mb w p ≤ 127 := of_decide_eq_true (show am_c2 .le (mB mb w p) 127 = true from c3)
          rw [hbe] at h9 ⊢
          have h10 := (nI_leI (by omega) (by decide)).mp (show nI bn ≤ nI 127 from h9)
          exact (nI_ltI (by omega) (by decide)).mpr (show bn < 128 by omega)
        · have h9 : ¬ mB mb w p ≤ 127 := of_decide_eq_false (show am_c2 .le (mB mb w p) 127 = false from c3)
          have hge : ¬ mB mb w p < 128 := by
            intro h10
            apply h9
            rw [hbe] at h10 ⊢
            have h11 := (nI_ltI (by omega) (by decide)).mp (show nI bn < nI 128 from h10)
            exact (nI_leI (by omega) (by decide)).mpr (show bn ≤ 127 by omega)
          refine wp_step rfl rfl ?_
          refine wp_step rfl rfl ?_
          refine wp_step rfl rfl ?_
          refine wp_step rfl rfl ?_
          rw [show nI k + Int32.ofInt 1 = nI (k + 1) from nI_1 k]
          refine wp_step rfl rfl ?_
          rw [hu2 (fun h9 => h9.elim hk8 hge)]
          exact hnext _ (by omega) hpl hge
    refine wp_icmp rfl (fun c2 => ?_) (fun c2 => ?_)
    · have hk8 : 8 ≤ k := (c2_ge (by omega) (by decide) (show am_c2 .ge (nI k) (nI 8) = true from c2)).mpr rfl
      refine wp_step rfl rfl ?_
      refine wp_step rfl rfl ?_
      refine wp_step rfl rfl ?_
      refine wp_step rfl rfl ?_
      refine wp_step rfl rfl ?_
      rw [show (Int8.ofInt 7).toInt32 * nI k = nI (7 * k) from pk_mul 7 k]
      refine wp_step rfl rfl ?_
      refine wp_step rfl rfl ?_
      refine wp_step rfl rfl ?_
      exact tail _ (fun _ => rfl) (fun h9 => absurd (Or.inl hk8) h9)
    · have hk8 : ¬ 8 ≤ k := fun h9 => by have h8 := (c2_ge (by omega) (by decide) (show am_c2 .ge (nI k) (nI 8) = false from c2)).mp h9; cases h8
      refine wp_step rfl rfl ?_
      refine wp_step rfl rfl ?_
      refine wp_step rfl rfl ?_
      refine wp_step rfl rfl ?_
      refine wp_step rfl rfl ?_
      refine wp_step rfl rfl ?_
      refine wp_step rfl rfl ?_
      refine wp_step rfl rfl ?_
      rw [show (Int8.ofInt 7).toInt32 * nI k = nI (7 * k) from pk_mul 7 k]
      refine wp_step rfl rfl ?_
      refine wp_step rfl rfl ?_
      refine wp_step rfl rfl ?_
      refine tail _ (fun h9 => ?_) (fun _ => rfl)
      rw [show mB mb w p &&& (Int8.ofInt 127).toInt32 = mB mb w p from and127 hbe hbn (h9.resolve_left hk8)]
  · have hpl : ¬ p < lim := fun h9 => by have h8 := (c2_lt (by omega) (by omega) c1).mp h9; cases h8
    refine wp_step rfl rfl ?_
    refine wp_step rfl rfl ?_
    refine wp_step rfl rfl ?_
    refine wp_call rfl rfl (by decide) rfl (recv_ok h rfl) (m_wrong0 _ _ h g25) (fun v9 T hq => ?_) (fun E T hq => by cases hq)
    cases hq
    refine wp_step rfl rfl ?_
    refine wp_step rfl rfl ?_
    rw [show nI k + Int32.ofInt 1 = nI (k + 1) from nI_1 k]
    refine wp_step rfl rfl ?_
    refine wp_step rfl rfl ?_
    refine wp_step rfl rfl ?_
    have hq : Q (.inl (some (.long v)), am_upd S 408 (mod (va_up (va_up g 26 (.int (nI p0))) 25 (.int 2)))) := by
      have h9 := hthr (by simp only [cnum]; rw [if_pos (by omega)]) v p hp
      rw [va_up_id g21] at h9
      exact h9
    refine wp_icmp rfl (fun _ => comp_out hq) (fun _ => ?_)
    refine wp_step rfl rfl ?_
    refine wp_if_f rfl (by decide) ?_
    refine wp_step rfl rfl ?_
    refine wp_getg (v := .int 2) rfl (am_get_self h) (by decide) rfl ?_
    refine wp_if_t rfl (by decide) ?_
    exact comp_out hq
theorem comp_loop (hw : w ≤ 1) (hl : lim ≤ 960) (hbs : bytesOK (mB mb w)) :
    ∀ (n k p : Nat) (v : Int64) (x6 : Option Value) (S : am_S) (g : Nat → Value), k + n = 8 → am_get S 408 = some (mod g) → am_get S 410 = some (.inl (0, 1920, .inl mb)) → g 4 = .ref 410 → g 19 = .int (nI w) → g 21 = .int (nI p) → g 22 = .int (nI lim) → g 25 = .int 0 → p ≤ 960 →
      (∀ v' p', cnum (mB mb w) lim (n + 1) k p v = some (v', p') → Q (.inl (some (.long v')), am_upd S 408 (mod (va_up g 21 (.int (nI p')))))) →
      (cnum (mB mb w) lim (n + 1) k p v = none → ∀ (v' : Int64) (q : Nat), q ≤ 960 → Q (.inl (some (.long v')), am_upd S 408 (mod (va_up (va_up (va_up g 21 (.int (nI q))) 26 (.int (nI p0))) 25 (.int 2))))) →
      wp X (d + 1) 98 13 [some (.ref 408), some (.int (nI p0)), some (.long (v)), none, some (.int 1), some (.int (nI (k))), x6] [] S Q := by
  intro n
  induction n with
  | zero =>
    intro k p v x6 S g hk h hb g4 g19 g21 g22 g25 hp hret hthr
    exact comp_turn hw hl hbs hk h hb g4 g19 g21 g22 g25 hp hret hthr (fun _ h9 => absurd h9 (by omega))
  | succ n ih =>
    intro k p v x6 S g hk h hb g4 g19 g21 g22 g25 hp hret hthr
    refine comp_turn hw hl hbs hk h hb g4 g19 g21 g22 g25 hp hret hthr (fun x6 h8 hpl hge => ?_)
    have hc : cnum (mB mb w) lim (n + 1 + 1) k p v = cnum (mB mb w) lim (n + 1) (k + 1) (p + 1) (v ||| ((mB mb w p &&& 127).toInt64 <<< ((nI (7 * k)).toInt64 &&& 63))) := by
      rw [cnum]
      rw [if_neg (by omega), if_neg (fun h9 => h9.elim (fun h10 => absurd h10 (by omega)) hge)]
    refine ih (k + 1) (p + 1) _ _ _ (va_up g 21 (.int (nI (p + 1)))) (by omega) (am_get_self h) (by rw [am_get_ne (by decide)]; exact hb) g4 g19 rfl g22 g25 (by omega) (fun v' p' h9 => ?_) (fun h9 v' q hq => ?_)
    · have h10 := hret v' p' (by rw [hc]; exact h9)
      rw [am_upd_upd, va_up_up]
      exact h10
    · have h10 := hthr (by rw [hc]; exact h9) v' q hq
      rw [am_upd_upd, va_up_up]
      exact h10
theorem m_comp0 (h : am_get S 408 = some (mod g)) (hb : am_get S 410 = some (.inl (0, 1920, .inl mb))) (g4 : g 4 = .ref 410) (g19 : g 19 = .int (nI w)) (hw : w ≤ 1) (g21 : g 21 = .int (nI p)) (g22 : g 22 = .int (nI lim)) (g25 : g 25 = .int 0) (hp : p ≤ 960) (hl : lim ≤ 960) (hbs : bytesOK (mB mb w)) :
    ev X (d + 2) 98 [.ref 408] S (fun r => (∃ v p', num9 (mB mb w) lim p = some (v, p') ∧ r = (.inl (some (.long v)), am_upd S 408 (mod (va_up g 21 (.int (nI p')))))) ∨ (num9 (mB mb w) lim p = none ∧ ∃ v q, q ≤ 960 ∧ r = (.inl (some (.long v)), am_upd S 408 (mod (va_up (va_up (va_up g 21 (.int (nI q))) 26 (.int (nI p))) 25 (.int 2)))))) := by
  refine ev_wp (L0 := [some (.ref 408), none, none, none, none, none, none]) (Nat.le_of_ble_eq_true rfl) rfl ?_
  refine wp_step rfl rfl ?_
  refine wp_getg rfl h (by decide) g21 ?_
  refine wp_step rfl rfl ?_
  refine wp_step rfl rfl ?_
  refine wp_step rfl rfl ?_
  refine wp_step rfl rfl ?_
  refine wp_step rfl rfl ?_
  refine wp_step rfl rfl ?_
  refine wp_step rfl rfl ?_
  exact comp_loop (p0 := p) hw hl hbs 8 0 p 0 none S g rfl h hb g4 g19 g21 g22 g25 hp (fun v' p' h9 => Or.inl ⟨v', p', h9, rfl⟩) (fun h9 v' q hq => Or.inr ⟨h9, v', q, hq, rfl⟩)
theorem m_comp1 {f : Int32} (h : am_get S 408 = some (mod g)) (g21 : g 21 = .int (nI p)) (g25 : g 25 = .int f) (hf : f ≠ 0) :
    ev X (d + 2) 98 [.ref 408] S (fun r => r = (.inl (some (.long 0)), S)) := by
  refine ev_wp (L0 := [some (.ref 408), none, none, none, none, none, none]) (Nat.le_of_ble_eq_true rfl) rfl ?_
  refine wp_step rfl rfl ?_
  refine wp_getg rfl h (by decide) g21 ?_
  refine wp_step rfl rfl ?_
  refine wp_step rfl rfl ?_
  refine wp_step rfl rfl ?_
  refine wp_step rfl rfl ?_
  refine wp_step rfl rfl ?_
  refine wp_step rfl rfl ?_
  refine wp_step rfl rfl ?_
  refine wp_step rfl rfl ?_
  refine wp_step rfl rfl ?_
  refine wp_icmp_f rfl (by decide) ?_
  refine wp_step rfl rfl ?_
  refine wp_if_f rfl (by decide) ?_
  refine wp_step rfl rfl ?_
  refine wp_getg rfl h (by decide) g25 ?_
  refine wp_if_t rfl (c1_ne0 hf) ?_
  refine wp_step rfl rfl ?_
  exact wp_lret rfl rfl rfl
end MOD2
end
section
/-! FlightReaderModel: counts, heads, numbers of two and four bytes -/
section MOD3
variable {X : Nat × (Nat → Int32)} {d : Nat} {S : am_S} {g : Nat → Value} {mb : Nat → Int32} {w p lim e : Nat}
theorem m_small0 (h : am_get S 408 = some (mod g)) (hb : am_get S 410 = some (.inl (0, 1920, .inl mb))) (g4 : g 4 = .ref 410) (g19 : g 19 = .int (nI w)) (hw : w ≤ 1) (g21 : g 21 = .int (nI p)) (g22 : g 22 = .int (nI lim)) (g25 : g 25 = .int 0) (hp : p ≤ 960) (hl : lim ≤ 960) (hbs : bytesOK (mB mb w)) :
    ev X (d + 3) 99 [.ref 408] S (fun r => (∃ n p', cnt (mB mb w) lim p = some (n, p') ∧ r = (.inl (some (.int (nI n))), am_upd S 408 (mod (va_up g 21 (.int (nI p')))))) ∨ (cnt (mB mb w) lim p = none ∧ ∃ q, q ≤ 960 ∧ r = (.inl (some (.int 0)), am_upd S 408 (mod (va_up (va_up (va_up g 21 (.int (nI q))) 26 (.int (nI p))) 25 (.int 2)))))) := by
  refine ev_wp (L0 := [some (.ref 408), none, none, none]) (Nat.le_of_ble_eq_true rfl) rfl ?_
  refine wp_step rfl rfl ?_
  refine wp_getg rfl h (by decide) g21 ?_
  refine wp_step rfl rfl ?_
  refine wp_step rfl rfl ?_
  refine wp_call rfl rfl (by decide) rfl (recv_ok h rfl) (m_comp0 h hb g4 g19 hw g21 g22 g25 hp hl hbs) (fun v T hq => ?_) (fun E T hq => by rcases hq with ⟨_, _, _, e9⟩ | ⟨_, _, _, _, e9⟩ <;> cases e9)
  rcases hq with ⟨v', p', hn, e9⟩ | ⟨hn, v', q, hq, e9⟩
  · cases e9
    have hpp := num9_pos hn
    have h1 := am_get_self (x := mod (va_up g 21 (.int (nI p')))) h
    have bad : (v' < 0 ∨ 2147483648 ≤ v') → wp X (d + 2) 99 31 [some (.ref 408), some (.int (nI p)), some (.long v'), none] [] (am_upd S 408 (mod (va_up g 21 (.int (nI p'))))) (fun r => (∃ n p', cnt (mB mb w) lim p = some (n, p') ∧ r = (.inl (some (.int (nI n))), am_upd S 408 (mod (va_up g 21 (.int (nI p')))))) ∨ (cnt (mB mb w) lim p = none ∧ ∃ q, q ≤ 960 ∧ r = (.inl (some (.int 0)), am_upd S 408 (mod (va_up (va_up (va_up g 21 (.int (nI q))) 26 (.int (nI p))) 25 (.int 2)))))) := by
      intro hbad
      refine wp_step rfl rfl ?_
      refine wp_step rfl rfl ?_
      refine wp_step rfl rfl ?_
      refine wp_call rfl rfl (by decide) rfl (recv_ok h1 rfl) (ev_up (by omega) (m_wrong0 (d := 0) _ _ h1 g25)) (fun v T hq => ?_) (fun E T hq => by cases hq)
      cases hq
      rw [am_upd_upd]
      refine wp_step rfl rfl ?_
      refine wp_getg (v := .int (Int32.ofInt 2)) rfl (am_get_self h) (by decide) rfl ?_
      refine wp_if_t rfl (by decide) ?_
      refine wp_step rfl rfl ?_
      refine wp_iret rfl rfl rfl (Or.inr ⟨?_, p', by omega, rfl⟩)
      unfold cnt; rw [hn]; exact if_pos hbad
    refine wp_step rfl rfl ?_
    refine wp_step rfl rfl ?_
    refine wp_getg (v := .int 0) rfl h1 (by decide) g25 ?_
    refine wp_if_f rfl (by decide) ?_
    refine wp_step rfl rfl ?_
    refine wp_step rfl rfl ?_
    refine wp_step rfl rfl ?_
    refine wp_if rfl (fun c1 => ?_) (fun c1 => ?_)
    · exact bad (Or.inl ((lg_cmp_lt v' 0).mp (of_decide_eq_true c1)))
    · have h0 : ¬ v' < 0 := fun h9 => of_decide_eq_false c1 ((lg_cmp_lt v' 0).mpr h9)
      refine wp_step rfl rfl ?_
      refine wp_step rfl rfl ?_
      refine wp_step rfl rfl ?_
      refine wp_if rfl (fun c2 => ?_) (fun c2 => ?_)
      · have h2 : v' ≤ 2147483647 := (lg_cmp_le v' 2147483647).mp (of_decide_eq_true c2)
        have h3 : ¬ 2147483648 ≤ v' := by
          intro h9
          rw [Int64.le_iff_toInt_le] at h2 h9
          have e1 : (2147483647 : Int64).toInt = 2147483647 := by decide
          have e2 : (2147483648 : Int64).toInt = 2147483648 := by decide
          omega
        refine wp_step rfl rfl ?_
        refine wp_getg (v := .int 0) rfl h1 (by decide) g25 ?_
        refine wp_if_f rfl (by decide) ?_
        refine wp_step rfl rfl ?_
        refine wp_step rfl rfl ?_
        refine wp_step rfl rfl ?_
        refine wp_iret rfl rfl rfl (Or.inl ⟨v'.toInt.toNat, p', ?_, ?_⟩)
        · unfold cnt; rw [hn]; exact if_neg (fun h9 => h9.elim h0 h3)
        · rw [(l2i_nat h0 h3).1]
      · have h2 : ¬ v' ≤ 2147483647 := fun h9 => of_decide_eq_false c2 ((lg_cmp_le v' 2147483647).mpr h9)
        refine bad (Or.inr ?_)
        rw [Int64.le_iff_toInt_le] at h2 ⊢
        have e1 : (2147483647 : Int64).toInt = 2147483647 := by decide
        have e2 : (2147483648 : Int64).toInt = 2147483648 := by decide
        omega
  · cases e9
    refine wp_step rfl rfl ?_
    refine wp_step rfl rfl ?_
    refine wp_getg (v := .int 2) rfl (am_get_self h) (by decide) rfl ?_
    refine wp_if_t rfl (by decide) ?_
    refine wp_step rfl rfl ?_
    refine wp_getg (v := .int 2) rfl (am_get_self h) (by decide) rfl ?_
    refine wp_if_t rfl (by decide) ?_
    refine wp_step rfl rfl ?_
    refine wp_iret rfl rfl rfl (Or.inr ⟨?_, q, hq, rfl⟩)
    unfold cnt; rw [hn]
theorem m_small1 {f : Int32} (h : am_get S 408 = some (mod g)) (g21 : g 21 = .int (nI p)) (g25 : g 25 = .int f) (hf : f ≠ 0) :
    ev X (d + 3) 99 [.ref 408] S (fun r => r = (.inl (some (.int 0)), S)) := by
  refine ev_wp (L0 := [some (.ref 408), none, none, none]) (Nat.le_of_ble_eq_true rfl) rfl ?_
  refine wp_step rfl rfl ?_
  refine wp_getg rfl h (by decide) g21 ?_
  refine wp_step rfl rfl ?_
  refine wp_step rfl rfl ?_
  refine wp_call rfl rfl (by decide) rfl (recv_ok h rfl) (m_comp1 h g21 g25 hf) (fun v T hq => ?_) (fun E T hq => by cases hq)
  cases hq
  refine wp_step rfl rfl ?_
  refine wp_step rfl rfl ?_
  refine wp_getg rfl h (by decide) g25 ?_
  refine wp_if_t rfl (c1_ne0 hf) ?_
  refine wp_step rfl rfl ?_
  refine wp_getg rfl h (by decide) g25 ?_
  refine wp_if_t rfl (c1_ne0 hf) ?_
  refine wp_step rfl rfl ?_
  exact wp_iret rfl rfl rfl rfl
/-- two bytes, the higher first -/
def tw (B : Nat → Int32) (p : Nat) : Int32 := (B p <<< ((8 : Int32) &&& 31)) ||| B (p + 1)
def fo (B : Nat → Int32) (p : Nat) : Int64 := ((tw B p).toInt64 <<< ((16 : Int32).toInt64 &&& 63)) ||| (tw B (p + 2)).toInt64
theorem m_two (h : am_get S 408 = some (mod g)) (hb : am_get S 410 = some (.inl (0, 1920, .inl mb))) (g4 : g 4 = .ref 410) (g19 : g 19 = .int (nI w)) (hw : w ≤ 1) (hp : p + 1 < 960) :
    ev X (d + 2) 100 [.ref 408, .int (nI p)] S (fun r => r = (.inl (some (.int (tw (mB mb w) p))), S)) := by
  refine ev_wp (L0 := [some (.ref 408), some (.int (nI p))]) (Nat.le_of_ble_eq_true rfl) rfl ?_
  refine wp_step rfl rfl ?_
  refine wp_step rfl rfl ?_
  refine wp_call rfl rfl (by decide) rfl (recv_ok h rfl) (m_get h hb g4 g19 hw (by omega)) (fun v T hq => ?_) (fun E T hq => by cases hq)
  cases hq
  refine wp_step rfl rfl ?_
  refine wp_step rfl rfl ?_
  refine wp_step rfl rfl ?_
  refine wp_step rfl rfl ?_
  refine wp_step rfl rfl ?_
  refine wp_step rfl rfl ?_
  rw [show nI p + Int32.ofInt 1 = nI (p + 1) from nI_1 p]
  refine wp_call rfl rfl (by decide) rfl (recv_ok h rfl) (m_get h hb g4 g19 hw (by omega)) (fun v T hq => ?_) (fun E T hq => by cases hq)
  cases hq
  refine wp_step rfl rfl ?_
  exact wp_iret rfl rfl rfl rfl
theorem m_four (h : am_get S 408 = some (mod g)) (hb : am_get S 410 = some (.inl (0, 1920, .inl mb))) (g4 : g 4 = .ref 410) (g19 : g 19 = .int (nI w)) (hw : w ≤ 1) (hp : p + 3 < 960) :
    ev X (d + 3) 101 [.ref 408, .int (nI p)] S (fun r => r = (.inl (some (.long (fo (mB mb w) p))), S)) := by
  refine ev_wp (L0 := [some (.ref 408), some (.int (nI p))]) (Nat.le_of_ble_eq_true rfl) rfl ?_
  refine wp_step rfl rfl ?_
  refine wp_step rfl rfl ?_
  refine wp_call rfl rfl (by decide) rfl (recv_ok h rfl) (m_two h hb g4 g19 hw (by omega)) (fun v T hq => ?_) (fun E T hq => by cases hq)
  cases hq
  refine wp_step rfl rfl ?_
  refine wp_step rfl rfl ?_
  refine wp_step rfl rfl ?_
  refine wp_step rfl rfl ?_
  refine wp_step rfl rfl ?_
  refine wp_step rfl rfl ?_
  refine wp_step rfl rfl ?_
  rw [show nI p + Int32.ofInt 2 = nI (p + 2) from nI_add p 2]
  refine wp_call rfl rfl (by decide) rfl (recv_ok h rfl) (m_two h hb g4 g19 hw (by omega)) (fun v T hq => ?_) (fun E T hq => by cases hq)
  cases hq
  refine wp_step rfl rfl ?_
  refine wp_step rfl rfl ?_
  exact wp_lret rfl rfl rfl
end MOD3
end
section
/-! FlightReaderModel: an event's head -/
section MOD4
variable {X : Nat × (Nat → Int32)} {d : Nat} {S : am_S} {g : Nat → Value} {mb : Nat → Int32} {w p e : Nat}
theorem beg_68F {Q : am_R → Prop} {f x : Int32} {g' : Nat → Value} (h : am_get S 408 = some (mod g)) (g25 : g' 25 = .int f) (hf : f ≠ 0) (hQ : Q (.inl (some (.int (nI e))), am_upd S 408 (mod (va_up g' 22 (.int (nI p + x)))))) :
    wp X d 115 68 [some (.ref 408), some (.int (nI p)), some (.int (nI e)), some (.int x)] [] (am_upd S 408 (mod g')) Q := by
  refine wp_step rfl rfl ?_
  refine wp_getg rfl (am_get_self h) (by decide) g25 ?_
  refine wp_if_t rfl (c1_ne0 hf) ?_
  refine wp_step rfl rfl ?_
  refine wp_step rfl rfl ?_
  refine wp_step rfl rfl ?_
  refine wp_step rfl rfl ?_
  refine wp_putg rfl (am_get_self h) (by decide) rfl rfl ?_
  rw [am_upd_upd]
  refine wp_step rfl rfl ?_
  refine wp_getg (v := .int f) rfl (am_get_self h) (by decide) g25 ?_
  refine wp_if_t rfl (c1_ne0 hf) ?_
  refine wp_step rfl rfl ?_
  exact wp_iret rfl rfl rfl hQ
theorem beg_40F {Q : am_R → Prop} {f x : Int32} {g' : Nat → Value} {q : Nat} (h : am_get S 408 = some (mod g)) (g21 : g' 21 = .int (nI q)) (g25 : g' 25 = .int f) (hf : f ≠ 0) (hQ : Q (.inl (some (.int (nI e))), am_upd S 408 (mod (va_up (va_up (va_up g' 57 (.int (nI q))) 56 (.long 0)) 22 (.int (nI p + x)))))) :
    wp X d 115 40 [some (.ref 408), some (.int (nI p)), some (.int (nI e)), some (.int x)] [] (am_upd S 408 (mod g')) Q := by
  refine wp_step rfl rfl ?_
  refine wp_step rfl rfl ?_
  refine wp_getg rfl (am_get_self h) (by decide) g21 ?_
  refine wp_putg rfl (am_get_self h) (by decide) rfl rfl ?_
  rw [am_upd_upd]
  refine wp_step rfl rfl ?_
  refine wp_step rfl rfl ?_
  refine wp_getg (v := .int f) rfl (am_get_self h) (by decide) g25 ?_
  refine wp_if_t rfl (c1_ne0 hf) ?_
  refine wp_step rfl rfl ?_
  refine wp_putg rfl (am_get_self h) (by decide) rfl rfl ?_
  rw [am_upd_upd]
  exact beg_68F h g25 hf hQ
set_option maxHeartbeats 1000000 in
theorem m_begins (h : am_get S 408 = some (mod g)) (hb : am_get S 410 = some (.inl (0, 1920, .inl mb))) (g4 : g 4 = .ref 410) (g19 : g 19 = .int (nI w)) (hw : w ≤ 1) (g25 : g 25 = .int 0) (hp : p ≤ e) (hl : e ≤ 960) (hbs : bytesOK (mB mb w)) :
    ev X (d + 4) 115 [.ref 408, .int (nI p), .int (nI e)] S (fun r => (∃ len id p1 p2, hd (mB mb w) p e = .inr (len, id, p1, p2) ∧ ∃ g', r = (.inl (some (.int (nI (p + len)))), am_upd S 408 (mod g')) ∧ g' 21 = .int (nI p2) ∧ g' 22 = .int (nI (p + len)) ∧ g' 56 = .long (lN id) ∧ g' 57 = .int (nI p1) ∧ ∀ j, j ∉ [21, 22, 56, 57] → g' j = g j) ∨
      (∃ k pl, hd (mB mb w) p e = .inl (k, pl) ∧ ∃ g', r = (.inl (some (.int (nI e))), am_upd S 408 (mod g')) ∧ (∃ q, q ≤ 960 ∧ g' 21 = .int (nI q)) ∧ (∃ x, g' 22 = .int x) ∧ (∃ x, g' 56 = .long x) ∧ (∃ x, g' 57 = .int x) ∧ g' 25 = .int k ∧ g' 26 = .int (nI pl) ∧ ∀ j, j ∉ [21, 22, 25, 26, 56, 57] → g' j = g j)) := by
  refine ev_wp (L0 := [some (.ref 408), some (.int (nI p)), some (.int (nI e)), none]) (Nat.le_of_ble_eq_true rfl) rfl ?_
  refine wp_step rfl rfl ?_
  refine wp_step rfl rfl ?_
  refine wp_putg rfl h (by decide) rfl rfl ?_
  refine wp_step rfl rfl ?_
  refine wp_step rfl rfl ?_
  refine wp_putg rfl (am_get_self h) (by decide) rfl rfl ?_
  rw [am_upd_upd]
  refine wp_step rfl rfl ?_
  have hb1 : ∀ x, am_get (am_upd S 408 x) 410 = some (.inl (0, 1920, .inl mb)) := fun x => by rw [am_get_ne (by decide)]; exact hb
  refine wp_call rfl rfl (by decide) rfl (recv_ok (am_get_self h) rfl) (m_small0 (p := p) (lim := e) (am_get_self h) (hb1 _) g4 g19 hw rfl rfl g25 (by omega) hl hbs) (fun v T hq => ?_) (fun E T hq => by rcases hq with ⟨_, _, _, e9⟩ | ⟨_, _, _, e9⟩ <;> cases e9)
  rcases hq with ⟨len, p1, hn, e9⟩ | ⟨hn, q, hq, e9⟩
  · cases e9
    rw [am_upd_upd]
    obtain ⟨hl31, hp1, hp1e⟩ := cnt_lt hn
    refine wp_step rfl rfl ?_
    refine wp_step rfl rfl ?_
    refine wp_getg (v := .int 0) rfl (am_get_self h) (by decide) g25 ?_
    refine wp_if_f rfl (by decide) ?_
    have bad : (len < 2 ∨ e - p < len) → wp X (d + 3) 115 34 [some (.ref 408), some (.int (nI p)), some (.int (nI e)), some (.int (nI len))] [] (am_upd S 408 (mod (va_up (va_up (va_up g 21 (.int (nI p))) 22 (.int (nI e))) 21 (.int (nI p1))))) (fun r => (∃ len id p1 p2, hd (mB mb w) p e = .inr (len, id, p1, p2) ∧ ∃ g', r = (.inl (some (.int (nI (p + len)))), am_upd S 408 (mod g')) ∧ g' 21 = .int (nI p2) ∧ g' 22 = .int (nI (p + len)) ∧ g' 56 = .long (lN id) ∧ g' 57 = .int (nI p1) ∧ ∀ j, j ∉ [21, 22, 56, 57] → g' j = g j) ∨
      (∃ k pl, hd (mB mb w) p e = .inl (k, pl) ∧ ∃ g', r = (.inl (some (.int (nI e))), am_upd S 408 (mod g')) ∧ (∃ q, q ≤ 960 ∧ g' 21 = .int (nI q)) ∧ (∃ x, g' 22 = .int x) ∧ (∃ x, g' 56 = .long x) ∧ (∃ x, g' 57 = .int x) ∧ g' 25 = .int k ∧ g' 26 = .int (nI pl) ∧ ∀ j, j ∉ [21, 22, 25, 26, 56, 57] → g' j = g j)) := by
      intro hbad
      refine wp_step rfl rfl ?_
      refine wp_step rfl rfl ?_
      refine wp_step rfl rfl ?_
      refine wp_call rfl rfl (by decide) rfl (recv_ok (am_get_self h) rfl) (ev_up (by omega) (m_wrong0 (d := 0) _ _ (am_get_self h) g25)) (fun v T hq => ?_) (fun E T hq => by cases hq)
      cases hq
      rw [am_upd_upd]
      refine beg_40F (f := 5) (q := p1) h rfl rfl (by decide) (Or.inr ⟨5, p, ?_, _, rfl, ⟨p1, by omega, rfl⟩, ⟨_, rfl⟩, ⟨_, rfl⟩, ⟨_, rfl⟩, rfl, rfl, fun j hj => ?_⟩)
      · unfold hd; rw [hn]; exact if_pos hbad
      · simp only [List.mem_cons, List.not_mem_nil, or_false, not_or] at hj
        simp [va_up, hj]
    refine wp_step rfl rfl ?_
    refine wp_step rfl rfl ?_
    refine wp_icmp rfl (fun c1 => ?_) (fun c1 => ?_)
    · exact bad (Or.inl ((nI_ltI hl31 (by decide)).mp (of_decide_eq_true (show am_c2 .lt (nI len) (nI 2) = true from c1))))
    · have hl2 : ¬ len < 2 := fun h9 => of_decide_eq_false (show am_c2 .lt (nI len) (nI 2) = false from c1) ((nI_ltI hl31 (by decide)).mpr h9)
      refine wp_step rfl rfl ?_
      refine wp_step rfl rfl ?_
      refine wp_step rfl rfl ?_
      refine wp_step rfl rfl ?_
      rw [pk_sub hp]
      refine wp_icmp rfl (fun c2 => ?_) (fun c2 => ?_)
      · have hle : len ≤ e - p := (nI_leI hl31 (by omega)).mp (of_decide_eq_true c2)
        refine wp_step rfl rfl ?_
        refine wp_step rfl rfl ?_
        refine wp_getg (v := .int (nI p1)) rfl (am_get_self h) (by decide) rfl ?_
        refine wp_putg rfl (am_get_self h) (by decide) rfl rfl ?_
        rw [am_upd_upd]
        refine wp_step rfl rfl ?_
        refine wp_step rfl rfl ?_
        refine wp_getg (v := .int 0) rfl (am_get_self h) (by decide) g25 ?_
        refine wp_if_f rfl (by decide) ?_
        refine wp_step rfl rfl ?_
        refine wp_call rfl rfl (by decide) rfl (recv_ok (am_get_self h) rfl) (m_small0 (p := p1) (lim := e) (am_get_self h) (hb1 _) g4 g19 hw rfl rfl g25 (by omega) hl hbs) (fun v T hq => ?_) (fun E T hq => by rcases hq with ⟨_, _, _, e9⟩ | ⟨_, _, _, e9⟩ <;> cases e9)
        rcases hq with ⟨id, p2, hn2, e9⟩ | ⟨hn2, q, hq, e9⟩
        · cases e9
          rw [am_upd_upd]
          obtain ⟨hi31, hp2, hp2e⟩ := cnt_lt hn2
          refine wp_step rfl rfl ?_
          refine wp_step rfl rfl ?_
          rw [nI_l hi31]
          refine wp_putg rfl (am_get_self h) (by decide) rfl rfl ?_
          rw [am_upd_upd]
          refine wp_step rfl rfl ?_
          refine wp_getg (v := .int 0) rfl (am_get_self h) (by decide) g25 ?_
          refine wp_if_f rfl (by decide) ?_
          refine wp_step rfl rfl ?_
          refine wp_getg (v := .int (nI p2)) rfl (am_get_self h) (by decide) rfl ?_
          refine wp_step rfl rfl ?_
          refine wp_step rfl rfl ?_
          refine wp_step rfl rfl ?_
          rw [nI_add]
          refine wp_icmp rfl (fun c3 => ?_) (fun c3 => ?_)
          · have hle2 : p2 ≤ p + len := (nI_leI (by omega) (by omega)).mp (of_decide_eq_true c3)
            refine wp_step rfl rfl ?_
            refine wp_step rfl rfl ?_
            refine wp_step rfl rfl ?_
            refine wp_step rfl rfl ?_
            rw [nI_add]
            refine wp_putg rfl (am_get_self h) (by decide) rfl rfl ?_
            rw [am_upd_upd]
            refine wp_step rfl rfl ?_
            refine wp_getg (v := .int 0) rfl (am_get_self h) (by decide) g25 ?_
            refine wp_if_f rfl (by decide) ?_
            refine wp_step rfl rfl ?_
            refine wp_step rfl rfl ?_
            refine wp_step rfl rfl ?_
            refine wp_step rfl rfl ?_
            rw [nI_add]
            refine wp_iret rfl rfl rfl (Or.inl ⟨len, id, p1, p2, ?_, _, rfl, rfl, rfl, rfl, rfl, fun j hj => ?_⟩)
            · unfold hd
              rw [hn]
              dsimp only
              rw [if_neg (by omega), hn2]
              exact if_neg (by omega)
            · simp only [List.mem_cons, List.not_mem_nil, or_false, not_or] at hj
              simp [va_up, hj]
          · have hle2 : ¬ p2 ≤ p + len := fun h9 => of_decide_eq_false c3 ((nI_leI (by omega) (by omega)).mpr h9)
            refine wp_step rfl rfl ?_
            refine wp_step rfl rfl ?_
            refine wp_step rfl rfl ?_
            refine wp_getg (v := .int (nI p1)) rfl (am_get_self h) (by decide) rfl ?_
            refine wp_call rfl rfl (by decide) rfl (recv_ok (am_get_self h) rfl) (ev_up (by omega) (m_wrong0 (d := 0) _ _ (am_get_self h) g25)) (fun v T hq => ?_) (fun E T hq => by cases hq)
            cases hq
            rw [am_upd_upd]
            refine wp_step rfl rfl ?_
            refine wp_step rfl rfl ?_
            refine wp_step rfl rfl ?_
            refine wp_step rfl rfl ?_
            refine wp_putg rfl (am_get_self h) (by decide) rfl rfl ?_
            rw [am_upd_upd]
            refine wp_step rfl rfl ?_
            refine wp_getg (v := .int (Int32.ofInt 2)) rfl (am_get_self h) (by decide) rfl ?_
            refine wp_if_t rfl (by decide) ?_
            refine wp_step rfl rfl ?_
            refine wp_iret rfl rfl rfl (Or.inr ⟨2, p1, ?_, _, rfl, ⟨p2, by omega, rfl⟩, ⟨_, rfl⟩, ⟨_, rfl⟩, ⟨_, rfl⟩, rfl, rfl, fun j hj => ?_⟩)
            · unfold hd
              rw [hn]
              dsimp only
              rw [if_neg (by omega), hn2]
              exact if_pos (by omega)
            · simp only [List.mem_cons, List.not_mem_nil, or_false, not_or] at hj
              simp [va_up, hj]
        · cases e9
          rw [am_upd_upd]
          refine wp_step rfl rfl ?_
          refine wp_step rfl rfl ?_
          refine wp_putg rfl (am_get_self h) (by decide) rfl rfl ?_
          rw [am_upd_upd]
          refine beg_68F (f := 2) h rfl (by decide) (Or.inr ⟨2, p1, ?_, _, rfl, ⟨q, hq, rfl⟩, ⟨_, rfl⟩, ⟨_, rfl⟩, ⟨_, rfl⟩, rfl, rfl, fun j hj => ?_⟩)
          · unfold hd
            rw [hn]
            dsimp only
            rw [if_neg (by omega), hn2]
          · simp only [List.mem_cons, List.not_mem_nil, or_false, not_or] at hj
            simp [va_up, hj]
      · have hle : ¬ len ≤ e - p := fun h9 => of_decide_eq_false c2 ((nI_leI hl31 (by omega)).mpr h9)
        exact bad (Or.inr (by omega))
  · cases e9
    rw [am_upd_upd]
    refine wp_step rfl rfl ?_
    refine wp_step rfl rfl ?_
    refine wp_getg (v := .int 2) rfl (am_get_self h) (by decide) rfl ?_
    refine wp_if_t rfl (by decide) ?_
    refine beg_40F (f := 2) (q := q) h rfl rfl (by decide) (Or.inr ⟨2, p, ?_, _, rfl, ⟨q, hq, rfl⟩, ⟨_, rfl⟩, ⟨_, rfl⟩, ⟨_, rfl⟩, rfl, rfl, fun j hj => ?_⟩)
    · unfold hd; rw [hn]
    · simp only [List.mem_cons, List.not_mem_nil, or_false, not_or] at hj
      simp [va_up, hj]
end MOD4
end
section
/-! TOOLS: comparisons of small numbers, calls with what follows as the end condition, what a piece of code may change -/
section CMP
variable {a b : Nat}
theorem n_lt_t (ha : a < 2 ^ 31) (hb : b < 2 ^ 31) (h : am_c2 .lt (nI a) (nI b) = true) : a < b := by
  unfold am_c2 at h
  have h1 := of_decide_eq_true h
  rw [nI_ltI ha hb] at h1
  omega
theorem n_lt_f (ha : a < 2 ^ 31) (hb : b < 2 ^ 31) (h : am_c2 .lt (nI a) (nI b) = false) : b ≤ a := by
  unfold am_c2 at h
  have h1 := of_decide_eq_false h
  rw [nI_ltI ha hb] at h1
  omega
theorem n_ge_t (ha : a < 2 ^ 31) (hb : b < 2 ^ 31) (h : am_c2 .ge (nI a) (nI b) = true) : b ≤ a := by
  unfold am_c2 at h
  have h1 := of_decide_eq_true h
  rw [nI_leI hb ha] at h1
  omega
theorem n_ge_f (ha : a < 2 ^ 31) (hb : b < 2 ^ 31) (h : am_c2 .ge (nI a) (nI b) = false) : a < b := by
  unfold am_c2 at h
  have h1 := of_decide_eq_false h
  rw [nI_leI hb ha] at h1
  omega
theorem n_gt_t (ha : a < 2 ^ 31) (hb : b < 2 ^ 31) (h : am_c2 .gt (nI a) (nI b) = true) : b < a := by
  unfold am_c2 at h
  have h1 := of_decide_eq_true h
  rw [nI_ltI hb ha] at h1
  omega
theorem n_gt_f (ha : a < 2 ^ 31) (hb : b < 2 ^ 31) (h : am_c2 .gt (nI a) (nI b) = false) : a ≤ b := by
  unfold am_c2 at h
  have h1 := of_decide_eq_false h
  rw [nI_ltI hb ha] at h1
  omega
theorem n_le_t (ha : a < 2 ^ 31) (hb : b < 2 ^ 31) (h : am_c2 .le (nI a) (nI b) = true) : a ≤ b := by
  unfold am_c2 at h
  have h1 := of_decide_eq_true h
  rw [nI_leI ha hb] at h1
  omega
theorem n_le_f (ha : a < 2 ^ 31) (hb : b < 2 ^ 31) (h : am_c2 .le (nI a) (nI b) = false) : b < a := by
  unfold am_c2 at h
  have h1 := of_decide_eq_false h
  rw [nI_leI ha hb] at h1
  omega
theorem n_eq_t (ha : a < 2 ^ 31) (hb : b < 2 ^ 31) (h : am_c2 .eq (nI a) (nI b) = true) : a = b := by
  unfold am_c2 at h
  have h1 := of_decide_eq_true h
  rw [nI_eq ha hb] at h1
  omega
theorem n_eq_f (ha : a < 2 ^ 31) (hb : b < 2 ^ 31) (h : am_c2 .eq (nI a) (nI b) = false) : a ≠ b := by
  unfold am_c2 at h
  have h1 := of_decide_eq_false h
  rw [nI_eq ha hb] at h1
  omega
theorem n_ne_t (ha : a < 2 ^ 31) (hb : b < 2 ^ 31) (h : am_c2 .ne (nI a) (nI b) = true) : a ≠ b := by
  unfold am_c2 at h
  have h1 := of_decide_eq_true h
  rw [nI_eq ha hb] at h1
  omega
theorem n_ne_f (ha : a < 2 ^ 31) (hb : b < 2 ^ 31) (h : am_c2 .ne (nI a) (nI b) = false) : a = b := by
  unfold am_c2 at h
  have h1 := of_decide_eq_false h
  rw [nI_eq ha hb] at h1
  omega
theorem z_lt_t (ha : a < 2 ^ 31) (h : am_c1 .lt (nI a) = true) : False := by
  unfold am_c1 at h
  have h1 := of_decide_eq_true h
  rw [show (0 : Int32) = nI 0 from rfl, nI_ltI ha (by decide)] at h1
  omega
theorem z_lt_f (ha : a < 2 ^ 31) (h : am_c1 .lt (nI a) = false) : True := by
  unfold am_c1 at h
  have h1 := of_decide_eq_false h
  rw [show (0 : Int32) = nI 0 from rfl, nI_ltI ha (by decide)] at h1
  trivial
theorem z_ge_t (ha : a < 2 ^ 31) (h : am_c1 .ge (nI a) = true) : True := by
  unfold am_c1 at h
  have h1 := of_decide_eq_true h
  rw [show (0 : Int32) = nI 0 from rfl, nI_leI (by decide) ha] at h1
  trivial
theorem z_ge_f (ha : a < 2 ^ 31) (h : am_c1 .ge (nI a) = false) : False := by
  unfold am_c1 at h
  have h1 := of_decide_eq_false h
  rw [show (0 : Int32) = nI 0 from rfl, nI_leI (by decide) ha] at h1
  omega
theorem z_gt_t (ha : a < 2 ^ 31) (h : am_c1 .gt (nI a) = true) : 0 < a := by
  unfold am_c1 at h
  have h1 := of_decide_eq_true h
  rw [show (0 : Int32) = nI 0 from rfl, nI_ltI (by decide) ha] at h1
  omega
theorem z_gt_f (ha : a < 2 ^ 31) (h : am_c1 .gt (nI a) = false) : a = 0 := by
  unfold am_c1 at h
  have h1 := of_decide_eq_false h
  rw [show (0 : Int32) = nI 0 from rfl, nI_ltI (by decide) ha] at h1
  omega
theorem z_le_t (ha : a < 2 ^ 31) (h : am_c1 .le (nI a) = true) : a = 0 := by
  unfold am_c1 at h
  have h1 := of_decide_eq_true h
  rw [show (0 : Int32) = nI 0 from rfl, nI_leI ha (by decide)] at h1
  omega
theorem z_le_f (ha : a < 2 ^ 31) (h : am_c1 .le (nI a) = false) : 0 < a := by
  unfold am_c1 at h
  have h1 := of_decide_eq_false h
  rw [show (0 : Int32) = nI 0 from rfl, nI_leI ha (by decide)] at h1
  omega
theorem z_eq_t (ha : a < 2 ^ 31) (h : am_c1 .eq (nI a) = true) : a = 0 := by
  unfold am_c1 at h
  have h1 := of_decide_eq_true h
  rw [show (0 : Int32) = nI 0 from rfl, nI_eq ha (by decide)] at h1
  omega
theorem z_eq_f (ha : a < 2 ^ 31) (h : am_c1 .eq (nI a) = false) : a ≠ 0 := by
  unfold am_c1 at h
  have h1 := of_decide_eq_false h
  rw [show (0 : Int32) = nI 0 from rfl, nI_eq ha (by decide)] at h1
  omega
theorem z_ne_t (ha : a < 2 ^ 31) (h : am_c1 .ne (nI a) = true) : a ≠ 0 := by
  unfold am_c1 at h
  have h1 := of_decide_eq_true h
  rw [show (0 : Int32) = nI 0 from rfl, nI_eq ha (by decide)] at h1
  omega
theorem z_ne_f (ha : a < 2 ^ 31) (h : am_c1 .ne (nI a) = false) : a = 0 := by
  unfold am_c1 at h
  have h1 := of_decide_eq_false h
  rw [show (0 : Int32) = nI 0 from rfl, nI_eq ha (by decide)] at h1
  omega
end CMP
section AFT
variable {X : Nat × (Nat → Int32)} {d k pc : Nat} {L : am_L} {st : List Value} {S : am_S} {Q : am_R → Prop}
/-- what follows a call in a method without handlers -/
def aft (X : Nat × (Nat → Int32)) (d k pc : Nat) (L : am_L) (rest : List Value) (Q : am_R → Prop) : am_R → Prop
  | (.inl v, T) => wp X d k (pc + 3) L (v.toList ++ rest) T Q
  | (.inr E, T) => Q (.inr E, T)
theorem wp_c0 {i : am_I} {as rest : List Value} (hi : am_P k pc = some i) (hc : am_isCall i.1 = true) (hn : i.2.2.1 ≠ 99999) (ha : am_args i st = some (as, rest)) (hr : am_recv am_M1 i as S = true) (hh : (am_M1 k).2.2.2.2 = []) (hev : ev X d i.2.2.1 as S (aft X d k pc L rest Q)) : wp X d k pc L st S Q :=
  wp_call hi hc hn ha hr hev (fun _ _ h => h) (fun _ _ h => Or.inl ⟨hh, h⟩)
theorem wp_fail {x len w : Nat} {cst : Int} {fed total pos lim idp : Nat} {fk fp a b : Int32} (hi : am_P k pc = some (.invokevirtual x, len, 44, 3, w, cst)) (hh : (am_M1 k).2.2.2.2 = []) (h : am_get S 1 = some (src fed total pos lim idp fk fp)) (hq : Q (.inr IAE, am_thrown (am_upd S 1 (src fed total pos lim idp a b)))) : wp X (d + 1) k pc L [.int b, .int a, .ref 1] S Q := by
  refine wp_call hi rfl (show (44 : Nat) ≠ 99999 by decide) rfl (recv_ok h rfl) (s_fail (d := d) a b h) (fun v T e => by cases e) (fun E T e => ?_)
  cases e
  exact Or.inl ⟨hh, hq⟩
theorem ev_eq {as : List Value} {r : am_R} (h : ev X d k as S (fun r' => r' = r)) (hq : Q r) : ev X d k as S Q := ev_conv h (fun r' e => by rw [e]; exact hq)
end AFT
/-- nothing has changed but the cells of js -/
def fr (js : List Nat) (S T : am_S) : Prop := T.1 = S.1 ∧ T.2.2 = S.2.2 ∧ ∀ j, j ∉ js → T.2.1 j = S.2.1 j
theorem fr_refl (js : List Nat) (S : am_S) : fr js S S := ⟨rfl, rfl, fun _ _ => rfl⟩
theorem fr_trans {js : List Nat} {S T U : am_S} (h : fr js S T) (h2 : fr js T U) : fr js S U := ⟨h2.1.trans h.1, h2.2.1.trans h.2.1, fun j hj => (h2.2.2 j hj).trans (h.2.2 j hj)⟩
theorem fr_mono {js ks : List Nat} {S T : am_S} (h : fr js S T) (hk : ∀ j, j ∈ js → j ∈ ks) : fr ks S T := ⟨h.1, h.2.1, fun j hj => h.2.2 j (fun h9 => hj (hk j h9))⟩
theorem fr_upd {js : List Nat} {S T : am_S} {a : Nat} {x : am_C} (h : fr js S T) (ha : a ∈ js) : fr js S (am_upd T a x) := by
  refine ⟨h.1, h.2.1, fun j hj => ?_⟩
  have e : j ≠ a := fun e => hj (e ▸ ha)
  show (if j = a then x else T.2.1 j) = _
  rw [if_neg e]
  exact h.2.2 j hj
theorem fr_up {js : List Nat} {S : am_S} {a : Nat} {x : am_C} (ha : a ∈ js) : fr js S (am_upd S a x) := fr_upd (fr_refl js S) ha
theorem fr_get {js : List Nat} {S T : am_S} (h : fr js S T) {j : Nat} (hj : j ∉ js) : am_get T j = am_get S j := by
  unfold am_get
  rw [h.1, h.2.2 j hj]
theorem fr_sub {js ks : List Nat} {S T U : am_S} (h : fr js S T) (h2 : fr ks T U) (hk : ∀ j, j ∈ js → j ∈ ks) : fr ks S U := fr_trans (fr_mono h hk) h2
theorem fr_sub2 {js ks : List Nat} {S T U : am_S} (h : fr ks S T) (h2 : fr js T U) (hk : ∀ j, j ∈ js → j ∈ ks) : fr ks S U := fr_trans h (fr_mono h2 hk)
theorem get_ex {S : am_S} {a : Nat} {x y : am_C} (h : am_get S a = some y) : am_get (am_upd S a x) a = some x := am_get_self h
/-- what is looked for first -/
def fsti (f : Nat → Bool) : Nat → Nat → Option Nat
  | 0, _ => none
  | n + 1, i => if f i = true then some i else fsti f n (i + 1)
theorem fsti_some {f : Nat → Bool} : ∀ {n i j : Nat}, fsti f n i = some j → i ≤ j ∧ j < i + n ∧ f j = true ∧ ∀ k, i ≤ k → k < j → f k = false := by
  intro n
  induction n with
  | zero => intro i j h; cases h
  | succ n ih =>
    intro i j h
    unfold fsti at h
    split at h
    · cases h; exact ⟨Nat.le_refl _, by omega, by assumption, fun k h1 h2 => by omega⟩
    · rename_i hf
      obtain ⟨h1, h2, h3, h4⟩ := ih h
      refine ⟨by omega, by omega, h3, fun k h5 h6 => ?_⟩
      rcases Nat.eq_or_lt_of_le h5 with e | e
      · subst e; exact Bool.eq_false_iff.mpr hf
      · exact h4 k e h6
theorem fsti_none {f : Nat → Bool} : ∀ {n i : Nat}, fsti f n i = none → ∀ k, i ≤ k → k < i + n → f k = false := by
  intro n
  induction n with
  | zero => intro i _ k h1 h2; omega
  | succ n ih =>
    intro i h k h1 h2
    unfold fsti at h
    split at h
    · cases h
    · rename_i hf
      rcases Nat.eq_or_lt_of_le h1 with e | e
      · subst e; exact Bool.eq_false_iff.mpr hf
      · exact ih h k e (by omega)
theorem fsti_congr {f g : Nat → Bool} : ∀ {n i : Nat}, (∀ k, i ≤ k → k < i + n → f k = g k) → fsti f n i = fsti g n i := by
  intro n
  induction n with
  | zero => intro i _; rfl
  | succ n ih =>
    intro i h
    unfold fsti
    rw [h i (Nat.le_refl _) (by omega), ih (fun k h1 h2 => h k (by omega) (by omega))]
theorem fsti_mk {f : Nat → Bool} {j : Nat} : ∀ {n i : Nat}, i ≤ j → j < i + n → f j = true → (∀ k, i ≤ k → k < j → f k = false) → fsti f n i = some j := by
  intro n
  induction n with
  | zero => intro i h1 h2; omega
  | succ n ih =>
    intro i h1 h2 h3 h4
    unfold fsti
    rcases Nat.eq_or_lt_of_le h1 with e | e
    · subst e; rw [if_pos h3]
    · rw [if_neg (by rw [h4 i (Nat.le_refl _) e]; decide)]
      exact ih e (by omega) h3 (fun k h5 h6 => h4 k (by omega) h6)
theorem fsti_mkN {f : Nat → Bool} : ∀ {n i : Nat}, (∀ k, i ≤ k → k < i + n → f k = false) → fsti f n i = none := by
  intro n
  induction n with
  | zero => intro i _; rfl
  | succ n ih =>
    intro i h
    unfold fsti
    rw [if_neg (by rw [h i (Nat.le_refl _) (by omega)]; decide)]
    exact ih (fun k h1 h2 => h k (by omega) (by omega))
/-- a place, or -1 -/
def oI : Option Nat → Int32
  | some i => nI i
  | none => -1
end
section
/-! TYPES AS THEY ARE TOLD: fields (name, type, flags), types (id, name, kind, fields), and how both programs keep them -/
abbrev jFd : Type := Nat × Nat × Nat
abbrev jTy : Type := Nat × Nat × Nat × List jFd
abbrev jTT : Type := List jTy
def fdOK (y : jFd) : Prop := 97 ≤ y.1 ∧ y.1 ≤ 122 ∧ y.2.1 < 2 ^ 31 ∧ y.2.2 ≤ 3
def tyOK (x : jTy) : Prop := 16 ≤ x.1 ∧ x.1 < 2 ^ 31 ∧ 65 ≤ x.2.1 ∧ x.2.1 ≤ 90 ∧ x.2.2.1 ≤ 1 ∧ x.2.2.2.length ≤ 8 ∧ ∀ y, y ∈ x.2.2.2 → fdOK y
/-- which field has the name -/
def fdx (fs : List jFd) (w : Nat) : Option Nat := fsti (fun i => decide (fs[i]?.map (fun y => y.1) = some w)) fs.length 0
/-- which type has the id -/
def tix (τ : jTT) (id : Nat) : Option Nat := fsti (fun t => decide (τ[t]?.map (fun x => x.1) = some id)) τ.length 0
def tixk (τ : jTT) (id kd : Nat) : Option Nat := fsti (fun t => decide (τ[t]?.map (fun x => (x.1, x.2.2.1)) = some (id, kd))) τ.length 0
/-- the class's Type at o -/
def tyG (o : Nat) (id nm kd n : Int32) : Nat → Value := fun k => match k with
  | 0 => .int id
  | 1 => .int nm
  | 2 => .int kd
  | 3 => .int n
  | 4 => .ref (o + 1)
  | 5 => .ref (o + 2)
  | 6 => .ref (o + 3)
  | _ => .null
abbrev tyC (o : Nat) (id nm kd n : Int32) : am_C := ob 7 7 (tyG o id nm kd n)
abbrev iA (n : Nat) (f : Nat → Int32) : am_C := .inl (0, n, .inl f)
abbrev lA (n : Nat) (f : Nat → Int64) : am_C := .inl (1, n, .inr (.inl f))
abbrev cA (n : Nat) (f : Nat → Int32) : am_C := .inl (3, n, .inl f)
abbrev rA (t n : Nat) (f : Nat → Option Nat) : am_C := .inl (t, n, .inr (.inr (.inr (.inr f))))
def fdE (fs : List jFd) (f1 f2 f3 : Nat → Int32) : Prop := ∀ (i : Nat) (y : jFd), fs[i]? = some y → f1 i = nI y.1 ∧ f2 i = nI y.2.1 ∧ f3 i = nI y.2.2
/-- the class's Type at o tells x -/
def cT (S : am_S) (o : Nat) (x : jTy) : Prop := am_get S o = some (tyC o (nI x.1) (nI x.2.1) (nI x.2.2.1) (nI x.2.2.2.length)) ∧ ∃ f1 f2 f3, am_get S (o + 1) = some (iA 8 f1) ∧ am_get S (o + 2) = some (iA 8 f2) ∧ am_get S (o + 3) = some (iA 8 f3) ∧ fdE x.2.2.2 f1 f2 f3
/-- the class's Type at o, whatever it tells -/
def cTs (S : am_S) (o : Nat) : Prop := ∃ id nm kd n f1 f2 f3, am_get S o = some (tyC o id nm kd n) ∧ am_get S (o + 1) = some (iA 8 f1) ∧ am_get S (o + 2) = some (iA 8 f2) ∧ am_get S (o + 3) = some (iA 8 f3)
theorem cT_s {S : am_S} {o : Nat} {x : jTy} (h : cT S o x) : cTs S o := by
  obtain ⟨h0, f1, f2, f3, h1, h2, h3, -⟩ := h
  exact ⟨_, _, _, _, f1, f2, f3, h0, h1, h2, h3⟩
theorem cT_fr {js : List Nat} {S T : am_S} {o : Nat} {x : jTy} (h : cT S o x) (hf : fr js S T) (hj : o ∉ js ∧ o + 1 ∉ js ∧ o + 2 ∉ js ∧ o + 3 ∉ js) : cT T o x := by
  obtain ⟨h0, f1, f2, f3, h1, h2, h3, h4⟩ := h
  exact ⟨by rw [fr_get hf hj.1]; exact h0, f1, f2, f3, by rw [fr_get hf hj.2.1]; exact h1, by rw [fr_get hf hj.2.2.1]; exact h2, by rw [fr_get hf hj.2.2.2]; exact h3, h4⟩
theorem cTs_fr {js : List Nat} {S T : am_S} {o : Nat} (h : cTs S o) (hf : fr js S T) (hj : o ∉ js ∧ o + 1 ∉ js ∧ o + 2 ∉ js ∧ o + 3 ∉ js) : cTs T o := by
  obtain ⟨id, nm, kd, n, f1, f2, f3, h0, h1, h2, h3⟩ := h
  exact ⟨id, nm, kd, n, f1, f2, f3, by rw [fr_get hf hj.1]; exact h0, by rw [fr_get hf hj.2.1]; exact h1, by rw [fr_get hf hj.2.2.1]; exact h2, by rw [fr_get hf hj.2.2.2]; exact h3⟩
/-- the class's Chunk at c -/
def ckG (c : Nat) (st en : Int32) (tk fq : Int64) (nt nc : Int32) : Nat → Value := fun k => match k with
  | 0 => .int st
  | 1 => .int en
  | 2 => .long tk
  | 3 => .long fq
  | 4 => .int nt
  | 5 => .ref (c + 1)
  | 6 => .int nc
  | 7 => .ref (c + 2)
  | 8 => .ref (c + 3)
  | 9 => .ref (c + 4)
  | _ => .null
abbrev ckC (c : Nat) (st en : Int32) (tk fq : Int64) (nt nc : Int32) : am_C := ob 1 10 (ckG c st en tk fq nt nc)
/-- its types' places -/
def ckR (S : am_S) (c : Nat) : Prop := ∃ F, am_get S (c + 1) = some (rA 5 10 F) ∧ ∀ t, t < 10 → F t = some (c + 5 + 4 * t)
/-- its types -/
def ckT (S : am_S) (c : Nat) (τ : jTT) : Prop := ∀ (t : Nat) (x : jTy), τ[t]? = some x → cT S (c + 5 + 4 * t) x

theorem tyG_0 {o : Nat} {id nm kd n : Int32} {z : Int32} : va_up (tyG o id nm kd n) 0 (.int z) = tyG o z nm kd n := by
  funext k
  match k with
  | 0 => rfl
  | 1 => rfl
  | 2 => rfl
  | 3 => rfl
  | 4 => rfl
  | 5 => rfl
  | 6 => rfl
  | k + 7 => simp [va_up, tyG]
theorem tyG_1 {o : Nat} {id nm kd n : Int32} {z : Int32} : va_up (tyG o id nm kd n) 1 (.int z) = tyG o id z kd n := by
  funext k
  match k with
  | 0 => rfl
  | 1 => rfl
  | 2 => rfl
  | 3 => rfl
  | 4 => rfl
  | 5 => rfl
  | 6 => rfl
  | k + 7 => simp [va_up, tyG]
theorem tyG_2 {o : Nat} {id nm kd n : Int32} {z : Int32} : va_up (tyG o id nm kd n) 2 (.int z) = tyG o id nm z n := by
  funext k
  match k with
  | 0 => rfl
  | 1 => rfl
  | 2 => rfl
  | 3 => rfl
  | 4 => rfl
  | 5 => rfl
  | 6 => rfl
  | k + 7 => simp [va_up, tyG]
theorem tyG_3 {o : Nat} {id nm kd n : Int32} {z : Int32} : va_up (tyG o id nm kd n) 3 (.int z) = tyG o id nm kd z := by
  funext k
  match k with
  | 0 => rfl
  | 1 => rfl
  | 2 => rfl
  | 3 => rfl
  | 4 => rfl
  | 5 => rfl
  | 6 => rfl
  | k + 7 => simp [va_up, tyG]
theorem ckG_0 {c : Nat} {st en : Int32} {tk fq : Int64} {nt nc : Int32} {z : Int32} : va_up (ckG c st en tk fq nt nc) 0 (.int z) = ckG c z en tk fq nt nc := by
  funext k
  match k with
  | 0 => rfl
  | 1 => rfl
  | 2 => rfl
  | 3 => rfl
  | 4 => rfl
  | 5 => rfl
  | 6 => rfl
  | 7 => rfl
  | 8 => rfl
  | 9 => rfl
  | k + 10 => simp [va_up, ckG]
theorem ckG_1 {c : Nat} {st en : Int32} {tk fq : Int64} {nt nc : Int32} {z : Int32} : va_up (ckG c st en tk fq nt nc) 1 (.int z) = ckG c st z tk fq nt nc := by
  funext k
  match k with
  | 0 => rfl
  | 1 => rfl
  | 2 => rfl
  | 3 => rfl
  | 4 => rfl
  | 5 => rfl
  | 6 => rfl
  | 7 => rfl
  | 8 => rfl
  | 9 => rfl
  | k + 10 => simp [va_up, ckG]
theorem ckG_2 {c : Nat} {st en : Int32} {tk fq : Int64} {nt nc : Int32} {z : Int64} : va_up (ckG c st en tk fq nt nc) 2 (.long z) = ckG c st en z fq nt nc := by
  funext k
  match k with
  | 0 => rfl
  | 1 => rfl
  | 2 => rfl
  | 3 => rfl
  | 4 => rfl
  | 5 => rfl
  | 6 => rfl
  | 7 => rfl
  | 8 => rfl
  | 9 => rfl
  | k + 10 => simp [va_up, ckG]
theorem ckG_3 {c : Nat} {st en : Int32} {tk fq : Int64} {nt nc : Int32} {z : Int64} : va_up (ckG c st en tk fq nt nc) 3 (.long z) = ckG c st en tk z nt nc := by
  funext k
  match k with
  | 0 => rfl
  | 1 => rfl
  | 2 => rfl
  | 3 => rfl
  | 4 => rfl
  | 5 => rfl
  | 6 => rfl
  | 7 => rfl
  | 8 => rfl
  | 9 => rfl
  | k + 10 => simp [va_up, ckG]
theorem ckG_4 {c : Nat} {st en : Int32} {tk fq : Int64} {nt nc : Int32} {z : Int32} : va_up (ckG c st en tk fq nt nc) 4 (.int z) = ckG c st en tk fq z nc := by
  funext k
  match k with
  | 0 => rfl
  | 1 => rfl
  | 2 => rfl
  | 3 => rfl
  | 4 => rfl
  | 5 => rfl
  | 6 => rfl
  | 7 => rfl
  | 8 => rfl
  | 9 => rfl
  | k + 10 => simp [va_up, ckG]
theorem ckG_6 {c : Nat} {st en : Int32} {tk fq : Int64} {nt nc : Int32} {z : Int32} : va_up (ckG c st en tk fq nt nc) 6 (.int z) = ckG c st en tk fq nt z := by
  funext k
  match k with
  | 0 => rfl
  | 1 => rfl
  | 2 => rfl
  | 3 => rfl
  | 4 => rfl
  | 5 => rfl
  | 6 => rfl
  | 7 => rfl
  | 8 => rfl
  | 9 => rfl
  | k + 10 => simp [va_up, ckG]
section SEARCH
variable {X : Nat × (Nat → Int32)} {d : Nat} {S : am_S} {Q : am_R → Prop}
theorem fn_loop {o w : Nat} {id nm kd : Int32} {fs : List jFd} {f1 : Nat → Int32} (h : am_get S o = some (tyC o id nm kd (nI fs.length))) (h1 : am_get S (o + 1) = some (iA 8 f1)) (he : ∀ (i : Nat) (y : jFd), fs[i]? = some y → f1 i = nI y.1) (hb : ∀ (i : Nat) (y : jFd), fs[i]? = some y → y.1 < 2 ^ 31) (hl : fs.length ≤ 8) (ho : o < 900000) (hw : w < 2 ^ 31) :
    ∀ (m i : Nat), i + m = fs.length → Q (.inl (some (.int (oI (fsti (fun i => decide (fs[i]?.map (fun y => y.1) = some w)) m i)))), S) → wp X d 62 2 [some (.ref o), some (.int (nI w)), some (.int (nI i))] [] S Q := by
  intro m
  induction m with
  | zero =>
    intro i hi hq
    iterate 2 refine wp_step rfl rfl ?_
    refine wp_getg rfl h (by decide) rfl ?_
    refine wp_icmp rfl (fun c => ?_) (fun c => ?_)
    · replace c := n_ge_t (a := i) (b := fs.length) (by omega) (by omega) c
      refine wp_step rfl rfl ?_
      refine wp_iret rfl rfl rfl hq
    · replace c := n_ge_f (a := i) (b := fs.length) (by omega) (by omega) c
      omega
  | succ m ih =>
    intro i hi hq
    iterate 2 refine wp_step rfl rfl ?_
    refine wp_getg rfl h (by decide) rfl ?_
    refine wp_icmp rfl (fun c => ?_) (fun c => ?_)
    · replace c := n_ge_t (a := i) (b := fs.length) (by omega) (by omega) c
      omega
    · replace c := n_ge_f (a := i) (b := fs.length) (by omega) (by omega) c
      refine wp_step rfl rfl ?_
      refine wp_getg rfl h (by decide) rfl ?_
      refine wp_step rfl rfl ?_
      refine wp_ald rfl (Or.inl ⟨rfl, rfl⟩) (by omega) h1 (am_in_nI (by omega) (by decide)) ?_
      rw [nI_clamp (by omega)]
      obtain ⟨y, hy⟩ : ∃ y, fs[i]? = some y := ⟨fs[i], List.getElem?_eq_getElem (by omega)⟩
      rw [he i y hy]
      have hy1 : y.1 < 2 ^ 31 := hb i y hy
      unfold fsti at hq
      refine wp_step rfl rfl ?_
      refine wp_icmp rfl (fun c => ?_) (fun c => ?_)
      · replace c := n_ne_t (a := y.1) (b := w) (by omega) (by omega) c
        rw [if_neg (by rw [hy]; simp; omega)] at hq
        iterate 2 refine wp_step rfl rfl ?_
        rw [show nI i + Int32.ofInt 1 = nI (i + 1) from nI_add i 1]
        exact ih (i + 1) (by omega) hq
      · replace c := n_ne_f (a := y.1) (b := w) (by omega) (by omega) c
        rw [if_pos (by rw [hy]; simp; omega)] at hq
        refine wp_step rfl rfl ?_
        refine wp_iret rfl rfl rfl hq
theorem q_fieldNamed {o w : Nat} {id nm kd : Int32} {fs : List jFd} {f1 : Nat → Int32} (h : am_get S o = some (tyC o id nm kd (nI fs.length))) (h1 : am_get S (o + 1) = some (iA 8 f1)) (he : ∀ (i : Nat) (y : jFd), fs[i]? = some y → f1 i = nI y.1) (hb : ∀ (i : Nat) (y : jFd), fs[i]? = some y → y.1 < 2 ^ 31) (hl : fs.length ≤ 8) (ho : o < 900000) (hw : w < 2 ^ 31)
    (hq : Q (.inl (some (.int (oI (fdx fs w)))), S)) : ev X (d + 1) 62 [.ref o, .int (nI w)] S Q := by
  refine ev_wp (L0 := [some (.ref o), some (.int (nI w)), none]) (Nat.le_of_ble_eq_true rfl) rfl ?_
  iterate 2 refine wp_step rfl rfl ?_
  exact fn_loop h h1 he hb hl ho hw fs.length 0 (by omega) hq
theorem tw_loop {c w : Nat} {st en : Int32} {tk fq : Int64} {nc : Int32} {τ : jTT} (h : am_get S c = some (ckC c st en tk fq (nI τ.length) nc)) (hR : ckR S c) (hT : ckT S c τ) (hb : ∀ (i : Nat) (x : jTy), τ[i]? = some x → x.1 < 2 ^ 31) (hl : τ.length ≤ 10) (hc : c < 900000) (hw : w < 2 ^ 31) :
    ∀ (m i : Nat), i + m = τ.length → Q (.inl (some (.int (oI (fsti (fun i => decide (τ[i]?.map (fun x => x.1) = some w)) m i)))), S) → wp X d 11 2 [some (.ref c), some (.int (nI w)), some (.int (nI i))] [] S Q := by
  obtain ⟨F, h1, hF⟩ := hR
  intro m
  induction m with
  | zero =>
    intro i hi hq
    iterate 2 refine wp_step rfl rfl ?_
    refine wp_getg rfl h (by decide) rfl ?_
    refine wp_icmp rfl (fun c => ?_) (fun c => ?_)
    · replace c := n_ge_t (a := i) (b := τ.length) (by omega) (by omega) c
      refine wp_step rfl rfl ?_
      refine wp_iret rfl rfl rfl hq
    · replace c := n_ge_f (a := i) (b := τ.length) (by omega) (by omega) c
      omega
  | succ m ih =>
    intro i hi hq
    iterate 2 refine wp_step rfl rfl ?_
    refine wp_getg rfl h (by decide) rfl ?_
    refine wp_icmp rfl (fun c => ?_) (fun c => ?_)
    · replace c := n_ge_t (a := i) (b := τ.length) (by omega) (by omega) c
      omega
    · replace c := n_ge_f (a := i) (b := τ.length) (by omega) (by omega) c
      refine wp_step rfl rfl ?_
      refine wp_getg rfl h (by decide) rfl ?_
      refine wp_step rfl rfl ?_
      refine wp_aald rfl (by omega) h1 (by decide) (am_in_nI (by omega) (by decide)) ?_
      rw [nI_clamp (by omega)]
      rw [hF i (by omega)]
      obtain ⟨x, hx⟩ : ∃ x, τ[i]? = some x := ⟨τ[i], List.getElem?_eq_getElem (by omega)⟩
      have hx1 := (hT i x hx).1
      have hxb : x.1 < 2 ^ 31 := hb i x hx
      refine wp_getg rfl hx1 (by decide) rfl ?_
      unfold fsti at hq
      refine wp_step rfl rfl ?_
      refine wp_icmp rfl (fun c => ?_) (fun c => ?_)
      · replace c := n_ne_t (a := x.1) (b := w) (by omega) (by omega) c
        rw [if_neg (by rw [hx]; simp; omega)] at hq
        iterate 2 refine wp_step rfl rfl ?_
        rw [show nI i + Int32.ofInt 1 = nI (i + 1) from nI_add i 1]
        exact ih (i + 1) (by omega) hq
      · replace c := n_ne_f (a := x.1) (b := w) (by omega) (by omega) c
        rw [if_pos (by rw [hx]; simp; omega)] at hq
        refine wp_step rfl rfl ?_
        refine wp_iret rfl rfl rfl hq
theorem q_typeWithId {c w : Nat} {st en : Int32} {tk fq : Int64} {nc : Int32} {τ : jTT} (h : am_get S c = some (ckC c st en tk fq (nI τ.length) nc)) (hR : ckR S c) (hT : ckT S c τ) (hb : ∀ (i : Nat) (x : jTy), τ[i]? = some x → x.1 < 2 ^ 31) (hl : τ.length ≤ 10) (hc : c < 900000) (hw : w < 2 ^ 31)
    (hq : Q (.inl (some (.int (oI (tix τ w)))), S)) : ev X (d + 1) 11 [.ref c, .int (nI w)] S Q := by
  refine ev_wp (L0 := [some (.ref c), some (.int (nI w)), none]) (Nat.le_of_ble_eq_true rfl) rfl ?_
  iterate 2 refine wp_step rfl rfl ?_
  exact tw_loop h hR hT hb hl hc hw τ.length 0 (by omega) hq
end SEARCH
end
section
/-! Source while a recording is read: the bytes b, tot of them, and its methods with what follows as the end condition -/
theorem cnum_congr {B B' : Nat → Int32} {lim : Nat} (h : ∀ j, j < lim → B j = B' j) : ∀ (n k p : Nat) (v : Int64), cnum B lim n k p v = cnum B' lim n k p v := by
  intro n
  induction n with
  | zero => intro k p v; rfl
  | succ n ih =>
    intro k p v
    unfold cnum
    by_cases hp : lim ≤ p
    · rw [if_pos hp, if_pos hp]
    · rw [if_neg hp, if_neg hp, h p (by omega), ih]
theorem num9_congr {B B' : Nat → Int32} {lim p : Nat} (h : ∀ j, j < lim → B j = B' j) : num9 B lim p = num9 B' lim p := cnum_congr h _ _ _ _
theorem cnt_congr {B B' : Nat → Int32} {lim p : Nat} (h : ∀ j, j < lim → B j = B' j) : cnt B lim p = cnt B' lim p := by
  unfold cnt
  rw [num9_congr h]
theorem hd_congr {B B' : Nat → Int32} {s e : Nat} (h : ∀ j, j < e → B j = B' j) : hd B s e = hd B' s e := by
  unfold hd
  rw [cnt_congr h]
  split
  · rfl
  · rw [cnt_congr h]
theorem fx_congr {B B' : Nat → Int32} {p : Nat} : ∀ {n : Nat}, (∀ j, p ≤ j → j < p + n → B j = B' j) → fx B p n = fx B' p n := by
  intro n
  induction n with
  | zero => intro _; rfl
  | succ n ih =>
    intro h
    unfold fx
    rw [ih (fun j h1 h2 => h j h1 (by omega)), h (p + n) (by omega) (by omega)]
theorem hd_ok {B : Nat → Int32} {s e len id p1 p2 : Nat} (h : hd B s e = .inr (len, id, p1, p2)) : 2 ≤ len ∧ len ≤ e - s ∧ s < p1 ∧ p1 < p2 ∧ p2 ≤ s + len ∧ id < 2 ^ 31 ∧ p2 ≤ e := by
  unfold hd at h
  split at h
  · cases h
  · rename_i l q hc
    split at h
    · cases h
    · split at h
      · cases h
      · rename_i i q2 hc2
        split at h
        · cases h
        · cases h
          have h1 := cnt_lt hc
          have h2 := cnt_lt hc2
          refine ⟨by omega, by omega, by omega, by omega, by omega, by omega, by omega⟩
abbrev Bn (b : Nat → Nat) : Nat → Int32 := fun j => nI (b j)
def sB (S : am_S) (b : Nat → Nat) (tot : Nat) : Prop := ∃ fb, am_get S 2 = some (.inl (2, 960, .inl fb)) ∧ ∀ j, j < tot → fb j &&& 255 = nI (b j)
def sK (S : am_S) (b : Nat → Nat) (tot pos lim idp : Nat) : Prop := am_get S 1 = some (src 0 tot pos lim idp 0 (-1)) ∧ sB S b tot ∧ tot ≤ 960 ∧ lim ≤ tot ∧ pos ≤ lim ∧ idp ≤ 960
/-- a fault was told -/
def sX (S : am_S) (tot : Nat) (k : Int32) (pl : Nat) : Prop := ∃ q l i, q ≤ 960 ∧ l ≤ 960 ∧ i ≤ 960 ∧ am_get S 1 = some (src 0 tot q l i k (nI pl))
theorem sB_fr {js : List Nat} {S T : am_S} {b : Nat → Nat} {tot : Nat} (h : sB S b tot) (hf : fr js S T) (h2 : 2 ∉ js) : sB T b tot := by
  obtain ⟨fb, h1, h3⟩ := h
  exact ⟨fb, by rw [fr_get hf h2]; exact h1, h3⟩
theorem sK_fr {js : List Nat} {S T : am_S} {b : Nat → Nat} {tot pos lim idp : Nat} (h : sK S b tot pos lim idp) (hf : fr js S T) (h1 : 1 ∉ js) (h2 : 2 ∉ js) : sK T b tot pos lim idp :=
  ⟨by rw [fr_get hf h1]; exact h.1, sB_fr h.2.1 hf h2, h.2.2⟩
theorem sX_fr {js : List Nat} {S T : am_S} {tot : Nat} {k : Int32} {pl : Nat} (h : sX S tot k pl) (hf : fr js S T) (h1 : 1 ∉ js) : sX T tot k pl := by
  obtain ⟨q, l, i, a1, a2, a3, a4⟩ := h
  exact ⟨q, l, i, a1, a2, a3, by rw [fr_get hf h1]; exact a4⟩
section READ
variable {X : Nat × (Nat → Int32)} {d k pc : Nat} {L : am_L} {S : am_S} {Q : am_R → Prop} {b : Nat → Nat} {tot pos lim idp : Nat}
theorem sK_up {x : Nat} (h : sK S b tot pos lim idp) {p l i : Nat} (h1 : l ≤ tot) (h2 : p ≤ l) (h3 : i ≤ 960) : fr [1] S (am_upd S 1 (src 0 tot p l i 0 (-1))) ∧ sK (am_upd S 1 (src 0 tot p l i 0 (-1))) b tot p l i :=
  ⟨fr_up (by decide), am_get_self h.1, sB_fr h.2.1 (fr_up (js := [1]) (by decide)) (by decide), h.2.2.1, h1, h2, h3⟩
theorem sX_up {x : am_C} (h : am_get S 1 = some x) {q l i : Nat} {k : Int32} {pl : Nat} (h1 : q ≤ 960) (h2 : l ≤ 960) (h3 : i ≤ 960) : sX (am_upd S 1 (src 0 tot q l i k (nI pl))) tot k pl :=
  ⟨q, l, i, h1, h2, h3, am_get_self h⟩
theorem wp_fl {x len w : Nat} {cst : Int} {a : Int32} {pl : Nat} (hi : am_P k pc = some (.invokevirtual x, len, 44, 3, w, cst)) (hh : (am_M1 k).2.2.2.2 = []) (h : sK S b tot pos lim idp) (hq : ∀ T, fr [1] S T → sX T tot a pl → Q (.inr IAE, am_thrown T)) : wp X (d + 1) k pc L [.int (nI pl), .int a, .ref 1] S Q := by
  have h2 := h.2.2
  exact wp_fail hi hh h.1 (hq _ (fr_up (by decide)) (sX_up h.1 (by omega) (by omega) (by omega)))
theorem q_number (h : sK S b tot pos lim idp) (hret : ∀ v p' T, num9 (Bn b) lim pos = some (v, p') → fr [1] S T → sK T b tot p' lim idp → Q (.inl (some (.long v)), T)) (hthr : ∀ T, num9 (Bn b) lim pos = none → fr [1] S T → sX T tot 2 pos → Q (.inr IAE, am_thrown T)) : ev X (d + 2) 49 [.ref 1] S Q := by
  obtain ⟨h1, ⟨fb, hB, hb⟩, h2⟩ := h
  refine ev_conv (s_number h1 hB (by omega) (by omega)) (fun r hr => ?_)
  have ec : num9 (by8 fb) lim pos = num9 (Bn b) lim pos := num9_congr (fun j hj => hb j (by omega))
  rw [ec] at hr
  rcases hr with ⟨v, p', e, rfl⟩ | ⟨e, q, hq, rfl⟩
  · have h3 := num9_pos e
    have h4 := sK_up (x := 0) ⟨h1, ⟨fb, hB, hb⟩, h2⟩ (p := p') (l := lim) (i := idp) (by omega) (by omega) (by omega)
    exact hret _ _ _ e h4.1 h4.2
  · exact hthr _ e (fr_up (by decide)) (sX_up h1 hq (by omega) (by omega))
theorem q_count (h : sK S b tot pos lim idp) (hret : ∀ n p' T, cnt (Bn b) lim pos = some (n, p') → fr [1] S T → sK T b tot p' lim idp → Q (.inl (some (.int (nI n))), T)) (hthr : ∀ T, cnt (Bn b) lim pos = none → fr [1] S T → sX T tot 2 pos → Q (.inr IAE, am_thrown T)) : ev X (d + 3) 50 [.ref 1] S Q := by
  obtain ⟨h1, ⟨fb, hB, hb⟩, h2⟩ := h
  refine ev_conv (s_count h1 hB (by omega) (by omega)) (fun r hr => ?_)
  have ec : cnt (by8 fb) lim pos = cnt (Bn b) lim pos := cnt_congr (fun j hj => hb j (by omega))
  rw [ec] at hr
  rcases hr with ⟨v, p', e, rfl⟩ | ⟨e, q, hq, rfl⟩
  · have h3 := cnt_lt e
    have h4 := sK_up (x := 0) ⟨h1, ⟨fb, hB, hb⟩, h2⟩ (p := p') (l := lim) (i := idp) (by omega) (by omega) (by omega)
    exact hret _ _ _ e h4.1 h4.2
  · exact hthr _ e (fr_up (by decide)) (sX_up h1 hq (by omega) (by omega))
theorem q_head {s e : Nat} (h : sK S b tot pos lim idp) (hs : s ≤ e) (he : e ≤ tot) (hret : ∀ len id p1 p2 T, hd (Bn b) s e = .inr (len, id, p1, p2) → fr [1] S T → sK T b tot p2 (s + len) p1 → Q (.inl (some (.int (nI id))), T)) (hthr : ∀ k pl T, hd (Bn b) s e = .inl (k, pl) → fr [1] S T → sX T tot k pl → Q (.inr IAE, am_thrown T)) : ev X (d + 4) 51 [.ref 1, .int (nI s), .int (nI e)] S Q := by
  obtain ⟨h1, ⟨fb, hB, hb⟩, h2⟩ := h
  refine ev_conv (s_head h1 hB hs (by omega) (by omega)) (fun r hr => ?_)
  have ec : hd (by8 fb) s e = hd (Bn b) s e := hd_congr (fun j hj => hb j (by omega))
  rw [ec] at hr
  rcases hr with ⟨len, id, p1, p2, e1, rfl⟩ | ⟨k, pl, e1, q, l, i, h3, h4, h5, rfl⟩
  · have h3 := hd_ok e1
    have h4 := sK_up (x := 0) ⟨h1, ⟨fb, hB, hb⟩, h2⟩ (p := p2) (l := s + len) (i := p1) (by omega) (by omega) (by omega)
    exact hret _ _ _ _ _ e1 h4.1 h4.2
  · exact hthr _ _ _ e1 (fr_up (by decide)) (sX_up h1 h3 h4 h5)
theorem q_fixedAt {p n : Nat} (h : sK S b tot pos lim idp) (hpn : p + n ≤ tot) (hret : Q (.inl (some (.long (fx (Bn b) p n))), S)) : ev X (d + 1) 46 [.ref 1, .int (nI p), .int (nI n)] S Q := by
  obtain ⟨h1, ⟨fb, hB, hb⟩, h2⟩ := h
  refine ev_conv (s_fixedAt h1 hB (by omega)) (fun r hr => ?_)
  rw [show fx (by8 fb) p n = fx (Bn b) p n from fx_congr (fun j h3 h4 => hb j (by omega))] at hr
  rw [hr]
  exact hret
theorem q_byteAt {p : Nat} (h : sK S b tot pos lim idp) (hp : p < tot) (hret : Q (.inl (some (.int (nI (b p)))), S)) : ev X (d + 1) 45 [.ref 1, .int (nI p)] S Q := by
  obtain ⟨h1, ⟨fb, hB, hb⟩, h2⟩ := h
  refine ev_conv (s_byteAt h1 hB (by omega)) (fun r hr => ?_)
  rw [show by8 fb p = nI (b p) from hb p hp] at hr
  rw [hr]
  exact hret
theorem q_fixed {n : Nat} (h : sK S b tot pos lim idp) (hn : n ≤ 960) (hret : ∀ T, pos + n ≤ lim → fr [1] S T → sK T b tot (pos + n) lim idp → Q (.inl (some (.long (fx (Bn b) pos n))), T)) (hthr : ∀ T, lim < pos + n → fr [1] S T → sX T tot 2 pos → Q (.inr IAE, am_thrown T)) : ev X (d + 2) 47 [.ref 1, .int (nI n)] S Q := by
  obtain ⟨h1, ⟨fb, hB, hb⟩, h2⟩ := h
  refine ev_conv (s_fixed h1 hB (by omega) (by omega) hn) (fun r hr => ?_)
  rcases hr with ⟨e, rfl⟩ | ⟨e, rfl⟩
  · rw [show fx (by8 fb) pos n = fx (Bn b) pos n from fx_congr (fun j h3 h4 => hb j (by omega))]
    have h4 := sK_up (x := 0) ⟨h1, ⟨fb, hB, hb⟩, h2⟩ (p := pos + n) (l := lim) (i := idp) (by omega) (by omega) (by omega)
    exact hret _ e h4.1 h4.2
  · exact hthr _ (by omega) (fr_up (by decide)) (sX_up h1 (by omega) (by omega) (by omega))
theorem q_oneByte (h : sK S b tot pos lim idp) (hret : ∀ T, pos < lim → fr [1] S T → sK T b tot (pos + 1) lim idp → Q (.inl (some (.int (nI (b pos)))), T)) (hthr : ∀ T, lim ≤ pos → fr [1] S T → sX T tot 2 pos → Q (.inr IAE, am_thrown T)) : ev X (d + 3) 48 [.ref 1] S Q := by
  obtain ⟨h1, ⟨fb, hB, hb⟩, h2⟩ := h
  refine ev_conv (s_oneByte h1 hB (by omega) (by omega)) (fun r hr => ?_)
  rcases hr with ⟨e, rfl⟩ | ⟨e, rfl⟩
  · rw [show by8 fb pos = nI (b pos) from hb pos (by omega)]
    have h4 := sK_up (x := 0) ⟨h1, ⟨fb, hB, hb⟩, h2⟩ (p := pos + 1) (l := lim) (i := idp) (by omega) (by omega) (by omega)
    exact hret _ e h4.1 h4.2
  · exact hthr _ (by omega) (fr_up (by decide)) (sX_up h1 (by omega) (by omega) (by omega))
theorem q_eventEnd (h : sK S b tot pos lim idp) (hret : lim ≤ pos → Q (.inl none, S)) (hthr : ∀ T, pos < lim → fr [1] S T → sX T tot 5 pos → Q (.inr IAE, am_thrown T)) : ev X (d + 2) 52 [.ref 1] S Q := by
  obtain ⟨h1, ⟨fb, hB, hb⟩, h2⟩ := h
  refine ev_conv (s_eventEnd h1 (by omega) (by omega)) (fun r hr => ?_)
  rcases hr with ⟨e, rfl⟩ | ⟨e, rfl⟩
  · exact hret e
  · exact hthr _ (by omega) (fr_up (by decide)) (sX_up h1 (by omega) (by omega) (by omega))
end READ
end
section
/-! A FIELD AND A TYPE, as they are told -/
/-- a fault, or what is read and where it ends -/
def rdF1 (b : Nat → Nat) (lim : Nat) (fs : List jFd) (p : Nat) : (Int32 × Nat) ⊕ (jFd × Nat) :=
  if lim ≤ p then .inl (2, p) else if b p < 97 ∨ 122 < b p ∨ fdx fs (b p) ≠ none then .inl (4, p) else (match cnt (Bn b) lim (p + 1) with
    | none => .inl (2, p + 1)
    | some (ty, p1) => if lim ≤ p1 then .inl (2, p1) else if 3 < b p1 then .inl (4, p1) else .inr ((b p, ty, b p1), p1 + 1))
def rdFs (b : Nat → Nat) (lim : Nat) : Nat → List jFd → Nat → (Int32 × Nat) ⊕ (List jFd × Nat)
  | 0, fs, p => .inr (fs, p)
  | n + 1, fs, p => (match rdF1 b lim fs p with
    | .inl e => .inl e
    | .inr (y, p') => rdFs b lim n (fs ++ [y]) p')
def rdT1 (b : Nat → Nat) (lim : Nat) (id p : Nat) : (Int32 × Nat) ⊕ (jTy × Nat) :=
  if lim ≤ p then .inl (2, p) else if b p < 65 ∨ 90 < b p then .inl (4, p) else if lim ≤ p + 1 then .inl (2, p + 1) else if 1 < b (p + 1) then .inl (4, p + 1) else (match cnt (Bn b) lim (p + 2) with
    | none => .inl (2, p + 2)
    | some (n, p1) => if 8 < n then .inl (4, p + 2) else (match rdFs b lim n [] p1 with
      | .inl e => .inl e
      | .inr (fs, p') => .inr ((id, b p, b (p + 1), fs), p')))
/-- the class's Type at o with these fields -/
def tyE (S : am_S) (o : Nat) (id nm kd : Int32) (fs : List jFd) : Prop := am_get S o = some (tyC o id nm kd (nI fs.length)) ∧ ∃ f1 f2 f3, am_get S (o + 1) = some (iA 8 f1) ∧ am_get S (o + 2) = some (iA 8 f2) ∧ am_get S (o + 3) = some (iA 8 f3) ∧ fdE fs f1 f2 f3
theorem tyE_fr {js : List Nat} {S T : am_S} {o : Nat} {id nm kd : Int32} {fs : List jFd} (h : tyE S o id nm kd fs) (hf : fr js S T) (hj : o ∉ js ∧ o + 1 ∉ js ∧ o + 2 ∉ js ∧ o + 3 ∉ js) : tyE T o id nm kd fs := by
  obtain ⟨h0, f1, f2, f3, h1, h2, h3, h4⟩ := h
  exact ⟨by rw [fr_get hf hj.1]; exact h0, f1, f2, f3, by rw [fr_get hf hj.2.1]; exact h1, by rw [fr_get hf hj.2.2.1]; exact h2, by rw [fr_get hf hj.2.2.2]; exact h3, h4⟩
theorem fdE_add {fs : List jFd} {f1 f2 f3 : Nat → Int32} (h : fdE fs f1 f2 f3) (y : jFd) : fdE (fs ++ [y]) (upd f1 fs.length (nI y.1)) (upd f2 fs.length (nI y.2.1)) (upd f3 fs.length (nI y.2.2)) := by
  intro i z hz
  rcases Nat.lt_or_ge i fs.length with hi | hi
  · rw [List.getElem?_append_left hi] at hz
    have h1 := h i z hz
    rw [pk_un (by omega), pk_un (by omega), pk_un (by omega)]
    exact h1
  · rw [List.getElem?_append_right hi] at hz
    have e : i = fs.length := by
      rcases Nat.eq_or_lt_of_le hi with e | e
      · exact e.symm
      · rw [List.getElem?_eq_none (by simp; omega)] at hz; cases hz
    subst e
    simp at hz
    subst hz
    rw [pk_us, pk_us, pk_us]
    exact ⟨rfl, rfl, rfl⟩
theorem n_and4 : ∀ n : Fin 256, (am_c1 .eq (nI n.val &&& (Int8.ofInt (-4)).toInt32) = true ↔ n.val ≤ 3) := by decide +kernel
theorem n_and4' {n : Nat} (hn : n < 256) : (am_c1 .eq (nI n &&& (Int8.ofInt (-4)).toInt32) = true ↔ n ≤ 3) := n_and4 ⟨n, hn⟩
theorem fdx_lt {fs : List jFd} {w i : Nat} (h : fdx fs w = some i) : i < fs.length := by
  have h1 := fsti_some h
  omega
theorem mem_at {α : Type} {l : List α} {i : Nat} {x : α} (h : l[i]? = some x) : x ∈ l := List.mem_of_getElem? h
theorem rdF1_ok {b : Nat → Nat} {lim p p' : Nat} {fs : List jFd} {y : jFd} (h : rdF1 b lim fs p = .inr (y, p')) : fdOK y ∧ p < p' ∧ p' ≤ lim ∧ fdx fs y.1 = none := by
  unfold rdF1 at h
  split at h
  · cases h
  · split at h
    · cases h
    · rename_i h1 h2
      split at h
      · cases h
      · rename_i ty p1 hc
        have h3 := cnt_lt hc
        split at h
        · cases h
        · split at h
          · cases h
          · cases h
            refine ⟨⟨by dsimp only; omega, by dsimp only; omega, by dsimp only; omega, by dsimp only; omega⟩, by omega, by omega, ?_⟩
            dsimp only
            cases hx : fdx fs (b p) with
            | none => rfl
            | some i => exact absurd (Or.inr (Or.inr (by rw [hx]; simp))) h2
section TELL
variable {X : Nat × (Nat → Int32)} {d : Nat} {S : am_S} {Q : am_R → Prop} {b : Nat → Nat} {tot p lim idp o : Nat} {id nm kd : Int32} {fs : List jFd}
set_option maxHeartbeats 1000000 in
theorem q_readField (hb : ∀ j, b j < 256) (h : sK S b tot p lim idp) (he : tyE S o id nm kd fs) (hfs : ∀ y, y ∈ fs → fdOK y) (hl : fs.length < 8) (ho : 3 ≤ o) (ho2 : o < 900000)
    (hret : ∀ y p' T, rdF1 b lim fs p = .inr (y, p') → fr [1, o, o + 1, o + 2, o + 3] S T → sK T b tot p' lim idp → tyE T o id nm kd (fs ++ [y]) → Q (.inl none, T))
    (hthr : ∀ k pl T, rdF1 b lim fs p = .inl (k, pl) → fr [1] S T → sX T tot k pl → Q (.inr IAE, am_thrown T)) : ev X (d + 4) 61 [.ref o, .ref 1] S Q := by
  obtain ⟨h0, f1, f2, f3, h1, h2, h3, h4⟩ := he
  refine ev_wp (L0 := [some (.ref o), some (.ref 1), none, none, none]) (Nat.le_of_ble_eq_true rfl) rfl ?_
  refine wp_step rfl rfl ?_
  refine wp_c0 rfl rfl (by decide) rfl (recv_ok h.1 rfl) rfl (q_oneByte h (fun T hlt hf hk => ?_) (fun T hlt hf hx => ?_))
  · have hn1 : ¬ lim ≤ p := by omega
    have bad : (b p < 97 ∨ 122 < b p ∨ fdx fs (b p) ≠ none) → wp X (d + 3) 61 25 [some (.ref o), some (.ref 1), some (.int (nI (b p))), none, none] [] T Q := by
      intro hbad
      iterate 3 refine wp_step rfl rfl ?_
      refine wp_getg rfl hk.1 (by decide) rfl ?_
      iterate 2 refine wp_step rfl rfl ?_
      rw [show nI (p + 1) - Int32.ofInt 1 = nI p from nI_pred p]
      refine wp_fl rfl rfl hk (fun T2 hf2 hx => hthr 4 _ _ ?_ (fr_trans hf hf2) hx)
      unfold rdF1; rw [if_neg hn1, if_pos hbad]
    have hbp := hb p
    have hTo : am_get T o = some (tyC o id nm kd (nI fs.length)) := by rw [fr_get hf (by simp only [List.mem_cons, List.not_mem_nil, or_false]; omega)]; exact h0
    have hT1 : am_get T (o + 1) = some (iA 8 f1) := by rw [fr_get hf (by simp only [List.mem_cons, List.not_mem_nil, or_false]; omega)]; exact h1
    iterate 3 refine wp_step rfl rfl ?_
    refine wp_icmp rfl (fun c => ?_) (fun c => ?_)
    · replace c := n_lt_t (a := b p) (b := 97) (by omega) (by omega) c
      exact bad (Or.inl c)
    · replace c := n_lt_f (a := b p) (b := 97) (by omega) (by omega) c
      iterate 2 refine wp_step rfl rfl ?_
      refine wp_icmp rfl (fun c2 => ?_) (fun c2 => ?_)
      · replace c2 := n_gt_t (a := b p) (b := 122) (by omega) (by omega) c2
        exact bad (Or.inr (Or.inl c2))
      · replace c2 := n_gt_f (a := b p) (b := 122) (by omega) (by omega) c2
        iterate 2 refine wp_step rfl rfl ?_
        refine wp_c0 rfl rfl (by decide) rfl (recv_ok hTo rfl) rfl (q_fieldNamed (w := b p) hTo hT1 (fun i y hy => (h4 i y hy).1) (fun i y hy => by have := hfs y (mem_at hy); unfold fdOK at this; omega) (by omega) (by omega) (by omega) ?_)
        cases hx : fdx fs (b p) with
        | some i =>
          have hi := fdx_lt hx
          refine wp_if_f rfl (show am_c1 .lt (nI i) = false from decide_eq_false (nI_pos (by omega))) ?_
          exact bad (Or.inr (Or.inr (by rw [hx]; simp)))
        | none =>
          refine wp_if_t rfl (by decide) ?_
          have hn2 : ¬ (b p < 97 ∨ 122 < b p ∨ fdx fs (b p) ≠ none) := by rw [hx]; simp; omega
          refine wp_step rfl rfl ?_
          refine wp_c0 rfl rfl (by decide) rfl (recv_ok hk.1 rfl) rfl (q_count hk (fun n p1 T2 hc hf2 hk2 => ?_) (fun T2 hc hf2 hx2 => ?_))
          · have hcl := cnt_lt hc
            iterate 2 refine wp_step rfl rfl ?_
            refine wp_c0 rfl rfl (by decide) rfl (recv_ok hk2.1 rfl) rfl (q_oneByte hk2 (fun T3 hlt3 hf3 hk3 => ?_) (fun T3 hlt3 hf3 hx3 => ?_))
            · have hf4 := fr_trans hf (fr_trans hf2 hf3)
              iterate 4 refine wp_step rfl rfl ?_
              refine wp_if rfl (fun c3 => ?_) (fun c3 => ?_)
              · have h3b := (n_and4' (hb p1)).mp c3
                have g0 : am_get T3 o = some (tyC o id nm kd (nI fs.length)) := by rw [fr_get hf4 (by simp only [List.mem_cons, List.not_mem_nil, or_false]; omega)]; exact h0
                have g1 : am_get T3 (o + 1) = some (iA 8 f1) := by rw [fr_get hf4 (by simp only [List.mem_cons, List.not_mem_nil, or_false]; omega)]; exact h1
                have g2 : am_get T3 (o + 2) = some (iA 8 f2) := by rw [fr_get hf4 (by simp only [List.mem_cons, List.not_mem_nil, or_false]; omega)]; exact h2
                have g3 : am_get T3 (o + 3) = some (iA 8 f3) := by rw [fr_get hf4 (by simp only [List.mem_cons, List.not_mem_nil, or_false]; omega)]; exact h3
                refine wp_step rfl rfl ?_
                refine wp_getg rfl g0 (by decide) rfl ?_
                refine wp_step rfl rfl ?_
                refine wp_getg rfl g0 (by decide) rfl ?_
                refine wp_step rfl rfl ?_
                refine wp_ast rfl (Or.inl ⟨rfl, rfl⟩) g1 (am_in_nI (by omega) (by decide)) ?_
                rw [nI_clamp (by omega)]
                refine wp_step rfl rfl ?_
                refine wp_getg rfl (by rw [am_get_ne (by omega)]; exact g0) (by decide) rfl ?_
                refine wp_step rfl rfl ?_
                refine wp_getg rfl (by rw [am_get_ne (by omega)]; exact g0) (by decide) rfl ?_
                refine wp_step rfl rfl ?_
                refine wp_ast rfl (Or.inl ⟨rfl, rfl⟩) (by rw [am_get_ne (by omega)]; exact g2) (am_in_nI (by omega) (by decide)) ?_
                rw [nI_clamp (by omega)]
                refine wp_step rfl rfl ?_
                refine wp_getg rfl (by rw [am_get_ne (by omega), am_get_ne (by omega)]; exact g0) (by decide) rfl ?_
                refine wp_step rfl rfl ?_
                refine wp_getg rfl (by rw [am_get_ne (by omega), am_get_ne (by omega)]; exact g0) (by decide) rfl ?_
                refine wp_step rfl rfl ?_
                refine wp_ast rfl (Or.inl ⟨rfl, rfl⟩) (by rw [am_get_ne (by omega), am_get_ne (by omega)]; exact g3) (am_in_nI (by omega) (by decide)) ?_
                rw [nI_clamp (by omega)]
                have g4 : ∀ x y z, am_get (am_upd (am_upd (am_upd T3 (o + 1) x) (o + 2) y) (o + 3) z) o = some (tyC o id nm kd (nI fs.length)) := fun x y z => by rw [am_get_ne (by omega), am_get_ne (by omega), am_get_ne (by omega)]; exact g0
                iterate 2 refine wp_step rfl rfl ?_
                refine wp_getg rfl (g4 _ _ _) (by decide) rfl ?_
                iterate 2 refine wp_step rfl rfl ?_
                rw [show nI fs.length + Int32.ofInt 1 = nI (fs.length + 1) from nI_add _ 1]
                refine wp_putg rfl (g4 _ _ _) (by decide) rfl rfl ?_
                rw [tyG_3]
                refine wp_vret rfl rfl ?_
                have e1 : rdF1 b lim fs p = .inr ((b p, n, b p1), p1 + 1) := by unfold rdF1; rw [if_neg hn1, if_neg hn2, hc]; dsimp only; rw [if_neg (by omega), if_neg (by omega)]
                have hf5 : fr [o, o + 1, o + 2, o + 3] T3 (am_upd (am_upd (am_upd (am_upd T3 (o + 1) (iA 8 (upd f1 fs.length (nI (b p))))) (o + 2) (iA 8 (upd f2 fs.length (nI n)))) (o + 3) (iA 8 (upd f3 fs.length (nI (b p1))))) o (tyC o id nm kd (nI (fs.length + 1)))) := fr_upd (fr_upd (fr_upd (fr_up (by simp)) (by simp)) (by simp)) (by simp)
                refine hret (b p, n, b p1) (p1 + 1) _ e1 (fr_sub hf4 (fr_mono hf5 (fun j hj => by simp only [List.mem_cons, List.not_mem_nil, or_false] at hj ⊢; omega)) (fun j hj => by simp only [List.mem_cons, List.not_mem_nil, or_false] at hj ⊢; omega)) (sK_fr hk3 hf5 (by simp only [List.mem_cons, List.not_mem_nil, or_false]; omega) (by simp only [List.mem_cons, List.not_mem_nil, or_false]; omega)) ⟨?_, _, _, _, ?_, ?_, ?_, fdE_add h4 (b p, n, b p1)⟩
                · rw [List.length_append]; exact am_get_self (g4 _ _ _)
                · rw [am_get_ne (by omega), am_get_ne (by omega), am_get_ne (by omega)]; exact am_get_self g1
                · rw [am_get_ne (by omega), am_get_ne (by omega)]; exact am_get_self (by rw [am_get_ne (by omega)]; exact g2)
                · rw [am_get_ne (by omega)]; exact am_get_self (by rw [am_get_ne (by omega), am_get_ne (by omega)]; exact g3)
              · have h3b : ¬ b p1 ≤ 3 := fun h9 => by rw [(n_and4' (hb p1)).mpr h9] at c3; cases c3
                iterate 3 refine wp_step rfl rfl ?_
                refine wp_getg rfl hk3.1 (by decide) rfl ?_
                iterate 2 refine wp_step rfl rfl ?_
                rw [show nI (p1 + 1) - Int32.ofInt 1 = nI p1 from nI_pred p1]
                refine wp_fl rfl rfl hk3 (fun T4 hf5 hx5 => hthr 4 _ _ ?_ (fr_trans hf4 hf5) hx5)
                unfold rdF1; rw [if_neg hn1, if_neg hn2, hc]; dsimp only; rw [if_neg (by omega), if_pos (by omega)]
            · exact hthr _ _ _ (by unfold rdF1; rw [if_neg hn1, if_neg hn2, hc]; dsimp only; rw [if_pos hlt3]) (fr_trans hf (fr_trans hf2 hf3)) hx3
          · exact hthr _ _ _ (by unfold rdF1; rw [if_neg hn1, if_neg hn2, hc]) (fr_trans hf hf2) hx2
  · exact hthr _ _ _ (by unfold rdF1; rw [if_pos hlt]) hf hx
end TELL
end
section
/-! Type.read -/
theorem rdFs_ok {b : Nat → Nat} {lim : Nat} : ∀ {n p p' : Nat} {fs fs' : List jFd}, rdFs b lim n fs p = .inr (fs', p') → (∀ y, y ∈ fs → fdOK y) → fs'.length = fs.length + n ∧ (∀ y, y ∈ fs' → fdOK y) ∧ p ≤ p' ∧ (p ≤ lim → p' ≤ lim) := by
  intro n
  induction n with
  | zero => intro p p' fs fs' h hy; cases h; exact ⟨rfl, hy, Nat.le_refl _, fun h => h⟩
  | succ n ih =>
    intro p p' fs fs' h hy
    unfold rdFs at h
    split at h
    · cases h
    · rename_i y q e
      obtain ⟨h1, h2, h3, -⟩ := rdF1_ok e
      obtain ⟨h4, h5, h6, h7⟩ := ih h (fun z hz => by
        rcases List.mem_append.mp hz with h9 | h9
        · exact hy z h9
        · rw [List.mem_singleton.mp h9]; exact h1)
      refine ⟨by rw [h4, List.length_append]; simp; omega, h5, by omega, fun _ => h7 h3⟩
theorem rdT1_ok {b : Nat → Nat} {lim id p p' : Nat} {x : jTy} (h : rdT1 b lim id p = .inr (x, p')) (h16 : 16 ≤ id) (hid : id < 2 ^ 31) : tyOK x ∧ x.1 = id ∧ p < p' ∧ p' ≤ lim := by
  unfold rdT1 at h
  split at h
  · cases h
  · split at h
    · cases h
    · split at h
      · cases h
      · split at h
        · cases h
        · split at h
          · cases h
          · rename_i n p1 hc
            have hcl := cnt_lt hc
            split at h
            · cases h
            · split at h
              · cases h
              · rename_i fs q e
                obtain ⟨h1, h2, h3, h4⟩ := rdFs_ok e (fun y hy => by cases hy)
                cases h
                have h5 := h4 hcl.2.2
                exact ⟨⟨h16, hid, by dsimp only; omega, by dsimp only; omega, by dsimp only; omega, by dsimp only; simp at h1; omega, h2⟩, rfl, by omega, h5⟩
section TYPE
variable {X : Nat × (Nat → Int32)} {d : Nat} {Q : am_R → Prop} {b : Nat → Nat} {tot lim idp o : Nat} {id nm kd : Int32}
theorem tyE_s {S : am_S} {fs : List jFd} (h : tyE S o id nm kd fs) : cTs S o := by
  obtain ⟨h0, f1, f2, f3, h1, h2, h3, -⟩ := h
  exact ⟨_, _, _, _, f1, f2, f3, h0, h1, h2, h3⟩
theorem tr_loop (hb : ∀ j, b j < 256) (ho : 3 ≤ o) (ho2 : o < 900000) {n : Nat} (hn : n ≤ 8) {x2 x3 x4 : Value} :
    ∀ (m i : Nat) (fs : List jFd) (p : Nat) (S : am_S), i + m = n → fs.length = i → (∀ y, y ∈ fs → fdOK y) → sK S b tot p lim idp → tyE S o id nm kd fs →
      (∀ fs' p' T, rdFs b lim m fs p = .inr (fs', p') → fr [1, o, o + 1, o + 2, o + 3] S T → sK T b tot p' lim idp → tyE T o id nm kd fs' → Q (.inl none, T)) →
      (∀ k pl T, rdFs b lim m fs p = .inl (k, pl) → fr [1, o, o + 1, o + 2, o + 3] S T → sX T tot k pl → cTs T o → Q (.inr IAE, am_thrown T)) →
      wp X (d + 4) 60 111 [some (.ref o), some (.ref 1), some x2, some x3, some x4, some (.int (nI n)), some (.int (nI i))] [] S Q := by
  intro m
  induction m with
  | zero =>
    intro i fs p S hi hil hfs h he hret hthr
    iterate 2 refine wp_step rfl rfl ?_
    refine wp_icmp rfl (fun c => ?_) (fun c => ?_)
    · replace c := n_ge_t (a := i) (b := n) (by omega) (by omega) c
      refine wp_vret rfl rfl (hret fs p S rfl (fr_refl _ _) h he)
    · replace c := n_ge_f (a := i) (b := n) (by omega) (by omega) c
      omega
  | succ m ih =>
    intro i fs p S hi hil hfs h he hret hthr
    iterate 2 refine wp_step rfl rfl ?_
    refine wp_icmp rfl (fun c => ?_) (fun c => ?_)
    · replace c := n_ge_t (a := i) (b := n) (by omega) (by omega) c
      omega
    · replace c := n_ge_f (a := i) (b := n) (by omega) (by omega) c
      iterate 2 refine wp_step rfl rfl ?_
      refine wp_c0 rfl rfl (by decide) rfl (recv_ok he.1 rfl) rfl (q_readField hb h he hfs (by omega) ho ho2 (fun y p1 T e1 hf hk he2 => ?_) (fun k pl T e1 hf hx => ?_))
      · iterate 2 refine wp_step rfl rfl ?_
        rw [show nI i + Int32.ofInt 1 = nI (i + 1) from nI_add i 1]
        have hy := rdF1_ok e1
        refine ih (i + 1) (fs ++ [y]) p1 T (by omega) (by simp; omega) (fun z hz => ?_) hk he2 (fun fs' p' T2 e2 hf2 hk2 he3 => hret fs' p' T2 (by unfold rdFs; rw [e1]; exact e2) (fr_trans hf hf2) hk2 he3) (fun k pl T2 e2 hf2 hx2 hs2 => hthr k pl T2 (by unfold rdFs; rw [e1]; exact e2) (fr_trans hf hf2) hx2 hs2)
        rcases List.mem_append.mp hz with h9 | h9
        · exact hfs z h9
        · rw [List.mem_singleton.mp h9]; exact hy.1
      · exact hthr k pl T (by unfold rdFs; rw [e1]) (fr_mono hf (fun j hj => by simp only [List.mem_cons, List.not_mem_nil, or_false] at hj ⊢; omega)) hx (tyE_s (tyE_fr he hf ⟨(by simp only [List.mem_cons, List.not_mem_nil, or_false]; omega), (by simp only [List.mem_cons, List.not_mem_nil, or_false]; omega), (by simp only [List.mem_cons, List.not_mem_nil, or_false]; omega), (by simp only [List.mem_cons, List.not_mem_nil, or_false]; omega)⟩))
set_option maxHeartbeats 1000000 in
theorem q_typeRead {S : am_S} {p id0 : Nat} (hb : ∀ j, b j < 256) (h : sK S b tot p lim idp) (hs : cTs S o) (ho : 3 ≤ o) (ho2 : o < 900000)
    (hret : ∀ x p' T, rdT1 b lim id0 p = .inr (x, p') → fr [1, o, o + 1, o + 2, o + 3] S T → sK T b tot p' lim idp → cT T o x → Q (.inl none, T))
    (hthr : ∀ k pl T, rdT1 b lim id0 p = .inl (k, pl) → fr [1, o, o + 1, o + 2, o + 3] S T → sX T tot k pl → cTs T o → Q (.inr IAE, am_thrown T)) : ev X (d + 5) 60 [.ref o, .ref 1, .int (nI id0)] S Q := by
  obtain ⟨id9, nm9, kd9, n9, f1, f2, f3, g0, g1, g2, g3⟩ := hs
  refine ev_wp (L0 := [some (.ref o), some (.ref 1), some (.int (nI id0)), none, none, none, none]) (Nat.le_of_ble_eq_true rfl) rfl ?_
  iterate 2 refine wp_step rfl rfl ?_
  refine wp_putg rfl g0 (by decide) rfl rfl ?_
  rw [tyG_0]
  iterate 2 refine wp_step rfl rfl ?_
  refine wp_putg rfl (am_get_self g0) (by decide) rfl rfl ?_
  rw [am_upd_upd, tyG_3, show Int32.ofInt 0 = nI 0 from rfl]
  have hf0 : fr [1, o, o + 1, o + 2, o + 3] S (am_upd S o (tyC o (nI id0) nm9 kd9 (nI 0))) := fr_up (by simp)
  have hk0 : sK (am_upd S o (tyC o (nI id0) nm9 kd9 (nI 0))) b tot p lim idp := sK_fr h (fr_up (js := [o]) (by simp)) (by simp only [List.mem_cons, List.not_mem_nil, or_false]; omega) (by simp only [List.mem_cons, List.not_mem_nil, or_false]; omega)
  have he0 : tyE (am_upd S o (tyC o (nI id0) nm9 kd9 (nI 0))) o (nI id0) nm9 kd9 [] := ⟨am_get_self g0, f1, f2, f3, by rw [am_get_ne (by omega)]; exact g1, by rw [am_get_ne (by omega)]; exact g2, by rw [am_get_ne (by omega)]; exact g3, fun i y hy => by simp at hy⟩
  generalize am_upd S o (tyC o (nI id0) nm9 kd9 (nI 0)) = S1 at hf0 hk0 he0 ⊢
  iterate 2 refine wp_step rfl rfl ?_
  refine wp_c0 rfl rfl (by decide) rfl (recv_ok hk0.1 rfl) rfl (q_oneByte hk0 (fun T hlt hf hk => ?_) (fun T hlt hf hx => ?_))
  · have hn1 : ¬ lim ≤ p := by omega
    have he1 := tyE_fr he0 hf ⟨(by simp only [List.mem_cons, List.not_mem_nil, or_false]; omega), (by simp only [List.mem_cons, List.not_mem_nil, or_false]; omega), (by simp only [List.mem_cons, List.not_mem_nil, or_false]; omega), (by simp only [List.mem_cons, List.not_mem_nil, or_false]; omega)⟩
    refine wp_putg rfl he1.1 (by decide) rfl rfl ?_
    rw [tyG_1]
    have hf1 : fr [1, o, o + 1, o + 2, o + 3] S (am_upd T o (tyC o (nI id0) (nI (b p)) kd9 (nI ([] : List jFd).length))) := fr_upd (fr_trans hf0 (fr_mono hf (fun j hj => by simp only [List.mem_cons, List.not_mem_nil, or_false] at hj ⊢; omega))) (by simp)
    have hk1 : sK (am_upd T o (tyC o (nI id0) (nI (b p)) kd9 (nI ([] : List jFd).length))) b tot (p + 1) lim idp := sK_fr hk (fr_up (js := [o]) (by simp)) (by simp only [List.mem_cons, List.not_mem_nil, or_false]; omega) (by simp only [List.mem_cons, List.not_mem_nil, or_false]; omega)
    have he2 : tyE (am_upd T o (tyC o (nI id0) (nI (b p)) kd9 (nI ([] : List jFd).length))) o (nI id0) (nI (b p)) kd9 [] := by
      obtain ⟨a0, f1, f2, f3, a1, a2, a3, a4⟩ := he1
      exact ⟨am_get_self a0, f1, f2, f3, by rw [am_get_ne (by omega)]; exact a1, by rw [am_get_ne (by omega)]; exact a2, by rw [am_get_ne (by omega)]; exact a3, a4⟩
    generalize am_upd T o (tyC o (nI id0) (nI (b p)) kd9 (nI ([] : List jFd).length)) = S2 at hf1 hk1 he2 ⊢
    have bad : (b p < 65 ∨ 90 < b p) → wp X (d + 4) 60 36 [some (.ref o), some (.ref 1), some (.int (nI id0)), none, none, none, none] [] S2 Q := by
      intro hbad
      iterate 3 refine wp_step rfl rfl ?_
      refine wp_getg rfl hk1.1 (by decide) rfl ?_
      iterate 2 refine wp_step rfl rfl ?_
      rw [show nI (p + 1) - Int32.ofInt 1 = nI p from nI_pred p]
      refine wp_fl rfl rfl hk1 (fun T2 hf2 hx => hthr 4 _ _ ?_ (fr_trans hf1 (fr_mono hf2 (fun j hj => by simp only [List.mem_cons, List.not_mem_nil, or_false] at hj ⊢; omega))) hx (tyE_s (tyE_fr he2 hf2 ⟨(by simp only [List.mem_cons, List.not_mem_nil, or_false]; omega), (by simp only [List.mem_cons, List.not_mem_nil, or_false]; omega), (by simp only [List.mem_cons, List.not_mem_nil, or_false]; omega), (by simp only [List.mem_cons, List.not_mem_nil, or_false]; omega)⟩)))
      unfold rdT1; rw [if_neg hn1, if_pos hbad]
    have hbp := hb p
    refine wp_step rfl rfl ?_
    refine wp_getg (v := .int (nI (b p))) rfl he2.1 (by decide) rfl ?_
    refine wp_step rfl rfl ?_
    refine wp_icmp rfl (fun c => ?_) (fun c => ?_)
    · replace c := n_lt_t (a := b p) (b := 65) (by omega) (by omega) c
      exact bad (Or.inl c)
    · replace c := n_lt_f (a := b p) (b := 65) (by omega) (by omega) c
      refine wp_step rfl rfl ?_
      refine wp_getg (v := .int (nI (b p))) rfl he2.1 (by decide) rfl ?_
      refine wp_step rfl rfl ?_
      refine wp_icmp rfl (fun c2 => ?_) (fun c2 => ?_)
      · replace c2 := n_le_t (a := b p) (b := 90) (by omega) (by omega) c2
        have hn2 : ¬ (b p < 65 ∨ 90 < b p) := by omega
        refine wp_step rfl rfl ?_
        refine wp_c0 rfl rfl (by decide) rfl (recv_ok hk1.1 rfl) rfl (q_oneByte hk1 (fun T2 hlt2 hf2 hk2 => ?_) (fun T2 hlt2 hf2 hx2 => ?_))
        · have hn3 : ¬ lim ≤ p + 1 := by omega
          have he3 := tyE_fr he2 hf2 ⟨(by simp only [List.mem_cons, List.not_mem_nil, or_false]; omega), (by simp only [List.mem_cons, List.not_mem_nil, or_false]; omega), (by simp only [List.mem_cons, List.not_mem_nil, or_false]; omega), (by simp only [List.mem_cons, List.not_mem_nil, or_false]; omega)⟩
          have hf3 := fr_trans hf1 (fr_mono (ks := [1, o, o + 1, o + 2, o + 3]) hf2 (fun j hj => by simp only [List.mem_cons, List.not_mem_nil, or_false] at hj ⊢; omega))
          have hbp1 := hb (p + 1)
          iterate 3 refine wp_step rfl rfl ?_
          refine wp_icmp rfl (fun c3 => ?_) (fun c3 => ?_)
          · replace c3 := n_le_t (a := b (p + 1)) (b := 1) (by omega) (by omega) c3
            have hn4 : ¬ 1 < b (p + 1) := by omega
            have on : ∀ S3, fr [1, o, o + 1, o + 2, o + 3] S S3 → sK S3 b tot (p + 2) lim idp → tyE S3 o (nI id0) (nI (b p)) (nI (b (p + 1))) [] → wp X (d + 4) 60 82 [some (.ref o), some (.ref 1), some (.int (nI id0)), some (.int (nI (b (p + 1)))), none, none, none] [] S3 Q := by
              intro S3 hf4 hk3 he4
              refine wp_step rfl rfl ?_
              refine wp_getg rfl hk3.1 (by decide) rfl ?_
              iterate 2 refine wp_step rfl rfl ?_
              refine wp_c0 rfl rfl (by decide) rfl (recv_ok hk3.1 rfl) rfl (q_count hk3 (fun n p1 T3 hc hf5 hk5 => ?_) (fun T3 hc hf5 hx5 => ?_))
              · have hcl := cnt_lt hc
                have he5 := tyE_fr he4 hf5 ⟨(by simp only [List.mem_cons, List.not_mem_nil, or_false]; omega), (by simp only [List.mem_cons, List.not_mem_nil, or_false]; omega), (by simp only [List.mem_cons, List.not_mem_nil, or_false]; omega), (by simp only [List.mem_cons, List.not_mem_nil, or_false]; omega)⟩
                have hf6 := fr_trans hf4 (fr_mono (ks := [1, o, o + 1, o + 2, o + 3]) hf5 (fun j hj => by simp only [List.mem_cons, List.not_mem_nil, or_false] at hj ⊢; omega))
                iterate 3 refine wp_step rfl rfl ?_
                refine wp_icmp rfl (fun c5 => ?_) (fun c5 => ?_)
                · replace c5 := n_le_t (a := n) (b := 8) (by omega) (by omega) c5
                  iterate 2 refine wp_step rfl rfl ?_
                  refine tr_loop hb ho ho2 c5 n 0 [] p1 T3 (by omega) rfl (fun y hy => by cases hy) hk5 he5 (fun fs' p' T4 e4 hf7 hk7 he7 => ?_) (fun k pl T4 e4 hf7 hx7 hs7 => ?_)
                  · exact hret (id0, b p, b (p + 1), fs') p' T4 (by unfold rdT1; rw [if_neg hn1, if_neg hn2, if_neg hn3, if_neg hn4, hc]; dsimp only; rw [if_neg (by omega), e4]) (fr_trans hf6 hf7) hk7 he7
                  · exact hthr k pl T4 (by unfold rdT1; rw [if_neg hn1, if_neg hn2, if_neg hn3, if_neg hn4, hc]; dsimp only; rw [if_neg (by omega), e4]) (fr_trans hf6 hf7) hx7 hs7
                · replace c5 := n_le_f (a := n) (b := 8) (by omega) (by omega) c5
                  iterate 3 refine wp_step rfl rfl ?_
                  refine wp_fl rfl rfl hk5 (fun T4 hf7 hx => hthr 4 _ _ ?_ (fr_trans hf6 (fr_mono hf7 (fun j hj => by simp only [List.mem_cons, List.not_mem_nil, or_false] at hj ⊢; omega))) hx (tyE_s (tyE_fr he5 hf7 ⟨(by simp only [List.mem_cons, List.not_mem_nil, or_false]; omega), (by simp only [List.mem_cons, List.not_mem_nil, or_false]; omega), (by simp only [List.mem_cons, List.not_mem_nil, or_false]; omega), (by simp only [List.mem_cons, List.not_mem_nil, or_false]; omega)⟩)))
                  unfold rdT1; rw [if_neg hn1, if_neg hn2, if_neg hn3, if_neg hn4, hc]; dsimp only; rw [if_pos c5]
              · exact hthr _ _ _ (by unfold rdT1; rw [if_neg hn1, if_neg hn2, if_neg hn3, if_neg hn4, hc]) (fr_trans hf4 (fr_mono hf5 (fun j hj => by simp only [List.mem_cons, List.not_mem_nil, or_false] at hj ⊢; omega))) hx5 (tyE_s (tyE_fr he4 hf5 ⟨(by simp only [List.mem_cons, List.not_mem_nil, or_false]; omega), (by simp only [List.mem_cons, List.not_mem_nil, or_false]; omega), (by simp only [List.mem_cons, List.not_mem_nil, or_false]; omega), (by simp only [List.mem_cons, List.not_mem_nil, or_false]; omega)⟩))
            have put : ∀ z, z = b (p + 1) → fr [1, o, o + 1, o + 2, o + 3] S (am_upd T2 o (tyC o (nI id0) (nI (b p)) (nI z) (nI ([] : List jFd).length))) ∧ sK (am_upd T2 o (tyC o (nI id0) (nI (b p)) (nI z) (nI ([] : List jFd).length))) b tot (p + 2) lim idp ∧ tyE (am_upd T2 o (tyC o (nI id0) (nI (b p)) (nI z) (nI ([] : List jFd).length))) o (nI id0) (nI (b p)) (nI (b (p + 1))) [] := by
              intro z hz
              subst hz
              obtain ⟨a0, f1, f2, f3, a1, a2, a3, a4⟩ := he3
              exact ⟨fr_upd hf3 (by simp), sK_fr hk2 (fr_up (js := [o]) (by simp)) (by simp only [List.mem_cons, List.not_mem_nil, or_false]; omega) (by simp only [List.mem_cons, List.not_mem_nil, or_false]; omega), am_get_self a0, f1, f2, f3, by rw [am_get_ne (by omega)]; exact a1, by rw [am_get_ne (by omega)]; exact a2, by rw [am_get_ne (by omega)]; exact a3, a4⟩
            iterate 3 refine wp_step rfl rfl ?_
            refine wp_icmp rfl (fun c4 => ?_) (fun c4 => ?_)
            · replace c4 := n_ne_t (a := b (p + 1)) (b := 1) (by omega) (by omega) c4
              refine wp_step rfl rfl ?_
              refine wp_putg rfl he3.1 (by decide) rfl rfl ?_
              rw [tyG_2]
              have h9 := put 0 (by omega)
              exact on _ h9.1 h9.2.1 h9.2.2
            · replace c4 := n_ne_f (a := b (p + 1)) (b := 1) (by omega) (by omega) c4
              iterate 2 refine wp_step rfl rfl ?_
              refine wp_putg rfl he3.1 (by decide) rfl rfl ?_
              rw [tyG_2]
              have h9 := put 1 (by omega)
              exact on _ h9.1 h9.2.1 h9.2.2
          · replace c3 := n_le_f (a := b (p + 1)) (b := 1) (by omega) (by omega) c3
            iterate 3 refine wp_step rfl rfl ?_
            refine wp_getg rfl hk2.1 (by decide) rfl ?_
            iterate 2 refine wp_step rfl rfl ?_
            rw [show nI (p + 1 + 1) - Int32.ofInt 1 = nI (p + 1) from nI_pred (p + 1)]
            refine wp_fl rfl rfl hk2 (fun T3 hf4 hx => hthr 4 _ _ ?_ (fr_trans hf3 (fr_mono hf4 (fun j hj => by simp only [List.mem_cons, List.not_mem_nil, or_false] at hj ⊢; omega))) hx (tyE_s (tyE_fr he3 hf4 ⟨(by simp only [List.mem_cons, List.not_mem_nil, or_false]; omega), (by simp only [List.mem_cons, List.not_mem_nil, or_false]; omega), (by simp only [List.mem_cons, List.not_mem_nil, or_false]; omega), (by simp only [List.mem_cons, List.not_mem_nil, or_false]; omega)⟩)))
            unfold rdT1; rw [if_neg hn1, if_neg hn2, if_neg hn3, if_pos c3]
        · exact hthr _ _ _ (by unfold rdT1; rw [if_neg hn1, if_neg hn2, if_pos hlt2]) (fr_trans hf1 (fr_mono hf2 (fun j hj => by simp only [List.mem_cons, List.not_mem_nil, or_false] at hj ⊢; omega))) hx2 (tyE_s (tyE_fr he2 hf2 ⟨(by simp only [List.mem_cons, List.not_mem_nil, or_false]; omega), (by simp only [List.mem_cons, List.not_mem_nil, or_false]; omega), (by simp only [List.mem_cons, List.not_mem_nil, or_false]; omega), (by simp only [List.mem_cons, List.not_mem_nil, or_false]; omega)⟩))
      · replace c2 := n_le_f (a := b p) (b := 90) (by omega) (by omega) c2
        exact bad (Or.inr c2)
  · exact hthr _ _ _ (by unfold rdT1; rw [if_pos hlt]) (fr_trans hf0 (fr_mono hf (fun j hj => by simp only [List.mem_cons, List.not_mem_nil, or_false] at hj ⊢; omega))) hx (tyE_s (tyE_fr he0 hf ⟨(by simp only [List.mem_cons, List.not_mem_nil, or_false]; omega), (by simp only [List.mem_cons, List.not_mem_nil, or_false]; omega), (by simp only [List.mem_cons, List.not_mem_nil, or_false]; omega), (by simp only [List.mem_cons, List.not_mem_nil, or_false]; omega)⟩))
end TYPE
end
section
/-! A CHUNK'S HEADER -/
/-- n bytes as a number -/
def fxN (b : Nat → Nat) (p : Nat) : Nat → Nat
  | 0 => 0
  | i + 1 => fxN b p i * 256 + b (p + i)
theorem lN_sh {a c : Nat} (ha : a < 2 ^ 55) (hc : c < 256) : (lN a <<< ((8 : Int32).toInt64 &&& 63)) ||| (nI c).toInt64 = lN (a * 256 + c) := by
  rw [nI_l (by omega)]
  rw [show ((8 : Int32).toInt64 &&& 63) = (8 : Int64) from by decide]
  apply Int64.toBitVec_inj.mp
  rw [Int64.toBitVec_or, Int64.toBitVec_shiftLeft]
  apply BitVec.eq_of_toNat_eq
  rw [BitVec.toNat_or]
  have e1 : ((lN a).toBitVec <<< (Int64.toBitVec 8).smod 64).toNat = a * 256 := by
    rw [show (Int64.toBitVec 8).smod 64 = 8#64 from by decide]
    show ((lN a).toBitVec <<< (8#64 : BitVec 64)).toNat = _
    rw [BitVec.shiftLeft_eq', BitVec.toNat_shiftLeft]
    show (BitVec.ofNat 64 a).toNat <<< 8 % 2 ^ 64 = _
    rw [BitVec.toNat_ofNat, Nat.mod_eq_of_lt (by omega), Nat.shiftLeft_eq, Nat.mod_eq_of_lt (by omega)]
  have e2 : (lN c).toBitVec.toNat = c := by
    show (BitVec.ofNat 64 c).toNat = c
    rw [BitVec.toNat_ofNat, Nat.mod_eq_of_lt (by omega)]
  have e3 : (lN (a * 256 + c)).toBitVec.toNat = a * 256 + c := by
    show (BitVec.ofNat 64 (a * 256 + c)).toNat = _
    rw [BitVec.toNat_ofNat, Nat.mod_eq_of_lt (by omega)]
  rw [e1, e2, e3]
  have h := Nat.two_pow_add_eq_or_of_lt (i := 8) (b := c) (by omega) a
  rw [show a * 256 = 2 ^ 8 * a by omega]
  exact h.symm
theorem fxN_lt {b : Nat → Nat} (hb : ∀ j, b j < 256) {p : Nat} : ∀ n, fxN b p n < 256 ^ n := by
  intro n
  induction n with
  | zero => exact Nat.one_pos
  | succ n ih =>
    have h1 := hb (p + n)
    unfold fxN
    rw [Nat.pow_succ]
    omega
theorem fx_N {b : Nat → Nat} (hb : ∀ j, b j < 256) {p : Nat} : ∀ n, n ≤ 7 → fx (Bn b) p n = lN (fxN b p n) := by
  intro n
  induction n with
  | zero => intro _; rfl
  | succ n ih =>
    intro hn
    unfold fx fxN
    rw [ih (by omega)]
    have h1 := fxN_lt hb (p := p) n
    have h2 : (256 : Nat) ^ n ≤ 256 ^ 6 := Nat.pow_le_pow_right (by decide) (by omega)
    exact lN_sh (Nat.lt_of_lt_of_le h1 (Nat.le_trans h2 (by decide))) (hb (p + n))
abbrev w2 (b : Nat → Nat) (p : Nat) : Nat := fxN b p 2
abbrev w4 (b : Nat → Nat) (p : Nat) : Nat := fxN b p 4
def sg (i : Nat) : Nat := match i with
  | 0 => 70
  | 1 => 76
  | 2 => 82
  | 3 => 0
  | _ => 2
theorem sg_eq (i : Nat) : am_sig i = nI (sg i) := by
  match i with
  | 0 => rfl
  | 1 => rfl
  | 2 => rfl
  | 3 => rfl
  | k + 4 => rfl
theorem sg_lt (i : Nat) : sg i < 256 := by
  match i with
  | 0 => decide
  | 1 => decide
  | 2 => decide
  | 3 => decide
  | k + 4 => show 2 < 256; decide
def hdrF (b : Nat → Nat) (tot s : Nat) : Nat → Nat → Option (Int32 × Nat)
  | 0, _ => none
  | m + 1, i => if tot ≤ s + i then some (2, tot) else if i < 5 ∧ b (s + i) ≠ sg i then some (1, s + i) else hdrF b tot s m (i + 1)
/-- a fault, or the chunk's size -/
def rdH (b : Nat → Nat) (tot s : Nat) : (Int32 × Nat) ⊕ Nat := match hdrF b tot s 8 0 with
  | some e => .inl e
  | none => if w2 b (s + 6) < 20 then .inl (1, s + 6) else if tot - s < w2 b (s + 6) then .inl (2, s + 6) else if w4 b (s + 16) = 0 then .inl (1, s + 16) else .inr (w2 b (s + 6))
theorem hdrF_none {b : Nat → Nat} {tot s : Nat} : ∀ {m i : Nat}, hdrF b tot s m i = none → m = 0 ∨ s + (i + m) ≤ tot := by
  intro m
  induction m with
  | zero => intro i _; exact Or.inl rfl
  | succ m ih =>
    intro i h
    unfold hdrF at h
    split at h
    · cases h
    · split at h
      · cases h
      · rcases ih h with h1 | h1 <;> exact Or.inr (by omega)
theorem rdH_ok {b : Nat → Nat} {tot s z : Nat} (h : rdH b tot s = .inr z) : z = w2 b (s + 6) ∧ 20 ≤ z ∧ s + z ≤ tot ∧ w4 b (s + 16) ≠ 0 := by
  unfold rdH at h
  split at h
  · cases h
  · rename_i e
    have h1 := hdrF_none e
    split at h
    · cases h
    · split at h
      · cases h
      · split at h
        · cases h
        · cases h
          exact ⟨rfl, by omega, by omega, by assumption⟩
section HEADER
variable {X : Nat × (Nat → Int32)} {d k pc : Nat} {L : am_L} {st : List Value} {S : am_S} {Q : am_R → Prop} {b : Nat → Nat} {tot pos lim idp c s : Nat} {en : Int32} {tk fq : Int64} {nt nc : Int32}
theorem wp_sig {len a b w j : Nat} {cst : Int} (hi : am_P k pc = some (.iaload, len, a, b, w, cst)) (hj : j < 5) (h : wp X d k (pc + len) L (.int (nI (sg j)) :: st) S Q) : wp X d k pc L (.int (nI j) :: .ref 1000001 :: st) S Q := by
  refine wp_step (pc' := pc + len) (L' := L) (st' := .int (nI (sg j)) :: st) (S' := S) hi ?_ h
  have e : am_in (nI j) 5 = true := am_in_nI hj (by decide)
  simp only [am_step, am_aload, am_ro]
  rw [if_neg (by decide), if_pos trivial]
  dsimp only
  rw [if_pos ⟨trivial, e⟩, nI_clamp (by omega), sg_eq]
theorem rh_loop (hb : ∀ j, b j < 256) (h : sK S b tot pos lim idp) (hs : s ≤ tot) :
    ∀ (m i : Nat), i + m = 8 → (hdrF b tot s m i = none → wp X (d + 1) 6 69 [some (.ref c), some (.ref 1), some (.int (nI s)), some (.int (nI 8))] [] S Q) → (∀ k pl T, hdrF b tot s m i = some (k, pl) → fr [1] S T → sX T tot k pl → Q (.inr IAE, am_thrown T)) →
      wp X (d + 1) 6 7 [some (.ref c), some (.ref 1), some (.int (nI s)), some (.int (nI i))] [] S Q := by
  have hk := h.2.2
  intro m
  induction m with
  | zero =>
    intro i hi hret hthr
    iterate 2 refine wp_step rfl rfl ?_
    refine wp_icmp rfl (fun c => ?_) (fun c => ?_)
    · replace c := n_ge_t (a := i) (b := 8) (by omega) (by omega) c
      have e : i = 8 := by omega
      subst e
      exact hret (by unfold hdrF; rfl)
    · replace c := n_ge_f (a := i) (b := 8) (by omega) (by omega) c
      omega
  | succ m ih =>
    intro i hi hret hthr
    iterate 2 refine wp_step rfl rfl ?_
    refine wp_icmp rfl (fun c => ?_) (fun c => ?_)
    · replace c := n_ge_t (a := i) (b := 8) (by omega) (by omega) c
      omega
    · replace c := n_ge_f (a := i) (b := 8) (by omega) (by omega) c
      iterate 4 refine wp_step rfl rfl ?_
      refine wp_getg rfl h.1 (by decide) rfl ?_
      rw [nI_add]
      refine wp_icmp rfl (fun c2 => ?_) (fun c2 => ?_)
      · replace c2 := n_lt_t (a := s + i) (b := tot) (by omega) (by omega) c2
        iterate 2 refine wp_step rfl rfl ?_
        refine wp_step rfl rfl ?_
        refine wp_icmp rfl (fun c3 => ?_) (fun c3 => ?_)
        · replace c3 := n_ge_t (a := i) (b := 5) (by omega) (by omega) c3
          iterate 2 refine wp_step rfl rfl ?_
          rw [show nI i + Int32.ofInt 1 = nI (i + 1) from nI_add i 1]
          exact ih (i + 1) (by omega) (fun e => hret (by unfold hdrF; rw [if_neg (by omega), if_neg (by omega)]; exact e)) (fun k pl T e => hthr k pl T (by unfold hdrF; rw [if_neg (by omega), if_neg (by omega)]; exact e))
        · replace c3 := n_ge_f (a := i) (b := 5) (by omega) (by omega) c3
          iterate 4 refine wp_step rfl rfl ?_
          rw [nI_add]
          refine wp_c0 rfl rfl (by decide) rfl (recv_ok h.1 rfl) rfl (q_byteAt h c2 ?_)
          iterate 2 refine wp_step rfl rfl ?_
          refine wp_sig rfl c3 ?_
          have hbi := hb (s + i)
          have hsg := sg_lt i
          refine wp_icmp rfl (fun c4 => ?_) (fun c4 => ?_)
          · replace c4 := n_eq_t (a := b (s + i)) (b := sg i) (by omega) (by omega) c4
            iterate 2 refine wp_step rfl rfl ?_
            rw [show nI i + Int32.ofInt 1 = nI (i + 1) from nI_add i 1]
            exact ih (i + 1) (by omega) (fun e => hret (by unfold hdrF; rw [if_neg (by omega), if_neg (by omega)]; exact e)) (fun k pl T e => hthr k pl T (by unfold hdrF; rw [if_neg (by omega), if_neg (by omega)]; exact e))
          · replace c4 := n_eq_f (a := b (s + i)) (b := sg i) (by omega) (by omega) c4
            iterate 5 refine wp_step rfl rfl ?_
            rw [nI_add]
            refine wp_fl rfl rfl h (fun T hf hx => hthr 1 (s + i) T ?_ hf hx)
            unfold hdrF; rw [if_neg (by omega), if_pos ⟨c3, c4⟩]
      · replace c2 := n_lt_f (a := s + i) (b := tot) (by omega) (by omega) c2
        iterate 3 refine wp_step rfl rfl ?_
        refine wp_getg rfl h.1 (by decide) rfl ?_
        refine wp_fl rfl rfl h (fun T hf hx => hthr 2 tot T ?_ hf hx)
        unfold hdrF; rw [if_pos c2]
set_option maxHeartbeats 1000000 in
theorem q_readHeader {st0 : Int32} (hb : ∀ j, b j < 256) (h : sK S b tot pos lim idp) (hc : am_get S c = some (ckC c st0 en tk fq nt nc)) (hs : s ≤ tot) (hc3 : 3 ≤ c) (hc9 : c < 900000)
    (hret : ∀ z T, rdH b tot s = .inr z → fr [c] S T → am_get T c = some (ckC c (nI s) (nI (s + z)) (lN (w4 b (s + 12))) (lN (w4 b (s + 16))) nt nc) → Q (.inl none, T))
    (hthr : ∀ k pl T, rdH b tot s = .inl (k, pl) → fr [1, c] S T → sX T tot k pl → (∃ st en tk fq, am_get T c = some (ckC c st en tk fq nt nc)) → Q (.inr IAE, am_thrown T)) : ev X (d + 2) 6 [.ref c, .ref 1, .int (nI s)] S Q := by
  refine ev_wp (L0 := [some (.ref c), some (.ref 1), some (.int (nI s)), none]) (Nat.le_of_ble_eq_true rfl) rfl ?_
  have hk0 := h.2.2
  iterate 2 refine wp_step rfl rfl ?_
  refine wp_putg rfl hc (by decide) rfl rfl ?_
  rw [ckG_0]
  have hf0 : fr [c] S (am_upd S c (ckC c (nI s) en tk fq nt nc)) := fr_up (by simp)
  have hk : sK (am_upd S c (ckC c (nI s) en tk fq nt nc)) b tot pos lim idp := sK_fr h hf0 (by simp only [List.mem_cons, List.not_mem_nil, or_false]; omega) (by simp only [List.mem_cons, List.not_mem_nil, or_false]; omega)
  have hcc : am_get (am_upd S c (ckC c (nI s) en tk fq nt nc)) c = some (ckC c (nI s) en tk fq nt nc) := am_get_self hc
  generalize am_upd S c (ckC c (nI s) en tk fq nt nc) = S1 at hf0 hk hcc ⊢
  iterate 2 refine wp_step rfl rfl ?_
  refine rh_loop hb hk hs 8 0 rfl (fun e1 => ?_) (fun k pl T e1 hf hx => ?_)
  · have h8 := hdrF_none e1
    iterate 5 refine wp_step rfl rfl ?_
    rw [show nI s + (Int8.ofInt 6).toInt32 = nI (s + 6) from nI_add s 6]
    refine wp_c0 rfl rfl (by decide) rfl (recv_ok hk.1 rfl) rfl (q_fixedAt (n := 2) hk (by omega) ?_)
    rw [fx_N hb 2 (by decide)]
    refine wp_step rfl rfl ?_
    rw [lN_i]
    have hw2 : w2 b (s + 6) < 65536 := fxN_lt hb (p := s + 6) 2
    iterate 3 refine wp_step rfl rfl ?_
    refine wp_icmp rfl (fun c1 => ?_) (fun c1 => ?_)
    · replace c1 := n_ge_t (a := w2 b (s + 6)) (b := 20) (by omega) (by omega) c1
      iterate 2 refine wp_step rfl rfl ?_
      refine wp_getg rfl hk.1 (by decide) rfl ?_
      iterate 2 refine wp_step rfl rfl ?_
      rw [pk_sub hs]
      refine wp_icmp rfl (fun c2 => ?_) (fun c2 => ?_)
      · replace c2 := n_le_t (a := w2 b (s + 6)) (b := tot - s) (by omega) (by omega) c2
        iterate 4 refine wp_step rfl rfl ?_
        rw [nI_add]
        refine wp_putg rfl hcc (by decide) rfl rfl ?_
        rw [ckG_1]
        have hf2 : fr [c] S (am_upd S1 c (ckC c (nI s) (nI (s + w2 b (s + 6))) tk fq nt nc)) := fr_upd hf0 (by simp)
        have hk2 : sK (am_upd S1 c (ckC c (nI s) (nI (s + w2 b (s + 6))) tk fq nt nc)) b tot pos lim idp := sK_fr h hf2 (by simp only [List.mem_cons, List.not_mem_nil, or_false]; omega) (by simp only [List.mem_cons, List.not_mem_nil, or_false]; omega)
        have hc2 : am_get (am_upd S1 c (ckC c (nI s) (nI (s + w2 b (s + 6))) tk fq nt nc)) c = some (ckC c (nI s) (nI (s + w2 b (s + 6))) tk fq nt nc) := am_get_self hcc
        generalize am_upd S1 c (ckC c (nI s) (nI (s + w2 b (s + 6))) tk fq nt nc) = S2 at hf2 hk2 hc2 ⊢
        iterate 6 refine wp_step rfl rfl ?_
        rw [show nI s + (Int8.ofInt 12).toInt32 = nI (s + 12) from nI_add s 12]
        refine wp_c0 rfl rfl (by decide) rfl (recv_ok hk2.1 rfl) rfl (q_fixedAt (n := 4) hk2 (by omega) ?_)
        rw [fx_N hb 4 (by decide)]
        refine wp_putg rfl hc2 (by decide) rfl rfl ?_
        rw [ckG_2]
        have hf3 : fr [c] S (am_upd S2 c (ckC c (nI s) (nI (s + w2 b (s + 6))) (lN (w4 b (s + 12))) fq nt nc)) := fr_upd hf2 (by simp)
        have hk3 : sK (am_upd S2 c (ckC c (nI s) (nI (s + w2 b (s + 6))) (lN (w4 b (s + 12))) fq nt nc)) b tot pos lim idp := sK_fr h hf3 (by simp only [List.mem_cons, List.not_mem_nil, or_false]; omega) (by simp only [List.mem_cons, List.not_mem_nil, or_false]; omega)
        have hc3 : am_get (am_upd S2 c (ckC c (nI s) (nI (s + w2 b (s + 6))) (lN (w4 b (s + 12))) fq nt nc)) c = some (ckC c (nI s) (nI (s + w2 b (s + 6))) (lN (w4 b (s + 12))) fq nt nc) := am_get_self hc2
        generalize am_upd S2 c (ckC c (nI s) (nI (s + w2 b (s + 6))) (lN (w4 b (s + 12))) fq nt nc) = S3 at hf3 hk3 hc3 ⊢
        iterate 6 refine wp_step rfl rfl ?_
        rw [show nI s + (Int8.ofInt 16).toInt32 = nI (s + 16) from nI_add s 16]
        refine wp_c0 rfl rfl (by decide) rfl (recv_ok hk3.1 rfl) rfl (q_fixedAt (n := 4) hk3 (by omega) ?_)
        rw [fx_N hb 4 (by decide)]
        refine wp_putg rfl hc3 (by decide) rfl rfl ?_
        rw [ckG_3]
        have hf4 : fr [c] S (am_upd S3 c (ckC c (nI s) (nI (s + w2 b (s + 6))) (lN (w4 b (s + 12))) (lN (w4 b (s + 16))) nt nc)) := fr_upd hf3 (by simp)
        have hk4 : sK (am_upd S3 c (ckC c (nI s) (nI (s + w2 b (s + 6))) (lN (w4 b (s + 12))) (lN (w4 b (s + 16))) nt nc)) b tot pos lim idp := sK_fr h hf4 (by simp only [List.mem_cons, List.not_mem_nil, or_false]; omega) (by simp only [List.mem_cons, List.not_mem_nil, or_false]; omega)
        have hc4 : am_get (am_upd S3 c (ckC c (nI s) (nI (s + w2 b (s + 6))) (lN (w4 b (s + 12))) (lN (w4 b (s + 16))) nt nc)) c = some (ckC c (nI s) (nI (s + w2 b (s + 6))) (lN (w4 b (s + 12))) (lN (w4 b (s + 16))) nt nc) := am_get_self hc3
        generalize am_upd S3 c (ckC c (nI s) (nI (s + w2 b (s + 6))) (lN (w4 b (s + 12))) (lN (w4 b (s + 16))) nt nc) = S4 at hf4 hk4 hc4 ⊢
        refine wp_step rfl rfl ?_
        refine wp_getg (v := .long (lN (w4 b (s + 16)))) rfl hc4 (by decide) rfl ?_
        have hw4 : w4 b (s + 16) < 4294967296 := fxN_lt hb (p := s + 16) 4
        iterate 2 refine wp_step rfl rfl ?_
        refine wp_if rfl (fun c5 => ?_) (fun c5 => ?_)
        · have h5 : ¬ lN (w4 b (s + 16)) < lN 1 := fun h9 => by
            have h10 := (lg_cmp_lt (lN (w4 b (s + 16))) (lN 1)).mpr h9
            have h11 : (0 : Int32) ≤ lg_cmp (lN (w4 b (s + 16))) (lN 1) := of_decide_eq_true c5
            exact absurd h10 (Int32.not_lt.mpr h11)
          rw [pk_lLT (by omega) (by decide)] at h5
          refine wp_vret rfl rfl (hret (w2 b (s + 6)) S4 (by unfold rdH; rw [e1]; dsimp only; rw [if_neg (by omega), if_neg (by omega), if_neg (by omega)]) hf4 hc4)
        · have h5 : lN (w4 b (s + 16)) < lN 1 := by
            have h11 : ¬ (0 : Int32) ≤ lg_cmp (lN (w4 b (s + 16))) (lN 1) := of_decide_eq_false c5
            exact (lg_cmp_lt _ _).mp (Int32.not_le.mp h11)
          rw [pk_lLT (by omega) (by decide)] at h5
          iterate 5 refine wp_step rfl rfl ?_
          rw [show nI s + (Int8.ofInt 16).toInt32 = nI (s + 16) from nI_add s 16]
          refine wp_fl rfl rfl hk4 (fun T hf5 hx => hthr 1 (s + 16) T ?_ (fr_trans (fr_mono hf4 (fun j hj => by simp only [List.mem_cons, List.not_mem_nil, or_false] at hj ⊢; omega)) (fr_mono hf5 (fun j hj => by simp only [List.mem_cons, List.not_mem_nil, or_false] at hj ⊢; omega))) hx ⟨_, _, _, _, by rw [fr_get hf5 (by simp only [List.mem_cons, List.not_mem_nil, or_false]; omega)]; exact hc4⟩)
          unfold rdH; rw [e1]; dsimp only; rw [if_neg (by omega), if_neg (by omega), if_pos (by omega)]
      · replace c2 := n_le_f (a := w2 b (s + 6)) (b := tot - s) (by omega) (by omega) c2
        iterate 5 refine wp_step rfl rfl ?_
        rw [show nI s + (Int8.ofInt 6).toInt32 = nI (s + 6) from nI_add s 6]
        refine wp_fl rfl rfl hk (fun T hf2 hx => hthr 2 (s + 6) T ?_ (fr_trans (fr_mono hf0 (fun j hj => by simp only [List.mem_cons, List.not_mem_nil, or_false] at hj ⊢; omega)) (fr_mono hf2 (fun j hj => by simp only [List.mem_cons, List.not_mem_nil, or_false] at hj ⊢; omega))) hx ⟨_, _, _, _, by rw [fr_get hf2 (by simp only [List.mem_cons, List.not_mem_nil, or_false]; omega)]; exact hcc⟩)
        unfold rdH; rw [e1]; dsimp only; rw [if_neg (by omega), if_pos c2]
    · replace c1 := n_ge_f (a := w2 b (s + 6)) (b := 20) (by omega) (by omega) c1
      iterate 5 refine wp_step rfl rfl ?_
      rw [show nI s + (Int8.ofInt 6).toInt32 = nI (s + 6) from nI_add s 6]
      refine wp_fl rfl rfl hk (fun T hf2 hx => hthr 1 (s + 6) T ?_ (fr_trans (fr_mono hf0 (fun j hj => by simp only [List.mem_cons, List.not_mem_nil, or_false] at hj ⊢; omega)) (fr_mono hf2 (fun j hj => by simp only [List.mem_cons, List.not_mem_nil, or_false] at hj ⊢; omega))) hx ⟨_, _, _, _, by rw [fr_get hf2 (by simp only [List.mem_cons, List.not_mem_nil, or_false]; omega)]; exact hcc⟩)
      unfold rdH; rw [e1]; dsimp only; rw [if_pos c1]
  · exact hthr k pl T (by unfold rdH; rw [e1]) (fr_trans (fr_mono hf0 (fun j hj => by simp only [List.mem_cons, List.not_mem_nil, or_false] at hj ⊢; omega)) (fr_mono hf (fun j hj => by simp only [List.mem_cons, List.not_mem_nil, or_false] at hj ⊢; omega))) hx ⟨_, _, _, _, by rw [fr_get hf (by simp only [List.mem_cons, List.not_mem_nil, or_false]; omega)]; exact hcc⟩
end HEADER
end
section
/-! THE CLASS'S QUESTIONS TO A CHUNK'S TYPES -/
def wfT (τ : jTT) : Prop := τ.length ≤ 10 ∧ (∀ x, x ∈ τ → tyOK x) ∧ ∀ (i j : Nat) (x y : jTy), τ[i]? = some x → τ[j]? = some y → x.1 = y.1 → i = j
def ckO (S : am_S) (c : Nat) (τ : jTT) : Prop := (∃ st en tk fq nc, am_get S c = some (ckC c st en tk fq (nI τ.length) nc)) ∧ ckR S c ∧ ckT S c τ
def isKd (τ : jTT) (w kd : Nat) : Prop := ∃ t x, tix τ w = some t ∧ τ[t]? = some x ∧ x.2.2.1 = kd
def goodF (τ : jTT) (y : jFd) : Prop := (2 ≤ y.2.1 ∧ y.2.1 ≤ 10) ∨ ∃ u z, tix τ y.2.1 = some u ∧ τ[u]? = some z ∧ z.2.2.1 = 0 ∧ z.2.2.2.length ≠ 0
def fht (τ : jTT) : Prop := ∀ (t : Nat) (x : jTy) (f : Nat) (y : jFd), τ[t]? = some x → x.2.2.2[f]? = some y → goodF τ y
/-- a value of type t holds one of type u, not by a key -/
def edge (τ : jTT) (t u : Nat) : Prop := ∃ (x : jTy) (f : Nat) (y : jFd), τ[t]? = some x ∧ x.2.2.2[f]? = some y ∧ y.2.2 % 2 = 0 ∧ tix τ y.2.1 = some u
def nocyc (τ : jTT) : Prop := ∃ rk : Nat → Nat, (∀ t, rk t ≤ 9) ∧ ∀ t u, edge τ t u → rk u < rk t
def ring (τ : jTT) : Prop := ∃ U : Nat → Prop, (∃ t, U t) ∧ ∀ t, U t → t < τ.length ∧ ∃ u, U u ∧ edge τ t u
theorem tix_some {τ : jTT} {w t : Nat} (h : tix τ w = some t) : ∃ x, τ[t]? = some x ∧ x.1 = w ∧ t < τ.length := by
  obtain ⟨h1, h2, h3, h4⟩ := fsti_some h
  have h5 : t < τ.length := by omega
  refine ⟨τ[t], List.getElem?_eq_getElem h5, ?_, h5⟩
  have h6 := of_decide_eq_true h3
  rw [List.getElem?_eq_getElem h5] at h6
  simpa using h6
theorem edge_lt {τ : jTT} {t u : Nat} (h : edge τ t u) : t < τ.length ∧ u < τ.length := by
  obtain ⟨x, f, y, h1, h2, h3, h4⟩ := h
  obtain ⟨z, h5, h6, h7⟩ := tix_some h4
  exact ⟨(List.getElem?_eq_some_iff.mp h1).1, h7⟩
theorem wf_ty {τ : jTT} (h : wfT τ) {t : Nat} {x : jTy} (hx : τ[t]? = some x) : tyOK x ∧ t < τ.length := ⟨h.2.1 x (mem_at hx), (List.getElem?_eq_some_iff.mp hx).1⟩
theorem wf_fd {τ : jTT} (h : wfT τ) {t f : Nat} {x : jTy} {y : jFd} (hx : τ[t]? = some x) (hy : x.2.2.2[f]? = some y) : fdOK y ∧ f < 8 ∧ f < x.2.2.2.length := by
  have h1 := (wf_ty h hx).1
  unfold tyOK at h1
  have h2 := (List.getElem?_eq_some_iff.mp hy).1
  exact ⟨h1.2.2.2.2.2.2 y (mem_at hy), by omega, h2⟩
theorem ckO_fr {js : List Nat} {S T : am_S} {c : Nat} {τ : jTT} (h : ckO S c τ) (hl : τ.length ≤ 10) (hf : fr js S T) (hj : ∀ j, j ∈ js → j < c ∨ c + 45 ≤ j) : ckO T c τ := by
  obtain ⟨⟨st, en, tk, fq, nc, h0⟩, ⟨F, h1, h2⟩, h3⟩ := h
  refine ⟨⟨st, en, tk, fq, nc, by rw [fr_get hf (fun h9 => by have := hj _ h9; omega)]; exact h0⟩, ⟨F, by rw [fr_get hf (fun h9 => by have := hj _ h9; omega)]; exact h1, h2⟩, fun t x hx => ?_⟩
  have ht := (List.getElem?_eq_some_iff.mp hx).1
  exact cT_fr (h3 t x hx) hf ⟨fun h9 => by have := hj _ h9; omega, fun h9 => by have := hj _ h9; omega, fun h9 => by have := hj _ h9; omega, fun h9 => by have := hj _ h9; omega⟩
theorem msk_t0 : ∀ m : Fin 1024, ∀ u : Fin 10, am_c1 .ne (nI m.val &&& (Int32.ofInt 1 <<< (nI u.val &&& 31))) = m.val.testBit u.val := by decide +kernel
theorem msk_o0 : ∀ m : Fin 1024, ∀ u : Fin 10, nI m.val ||| (Int32.ofInt 1 <<< (nI u.val &&& 31)) = nI (m.val ||| 2 ^ u.val) := by decide +kernel
theorem msk_f0 : ∀ n : Fin 11, (Int32.ofInt 1 <<< (nI n.val &&& 31)) - Int32.ofInt 1 = nI (2 ^ n.val - 1) := by decide +kernel
theorem msk_t {m u : Nat} (hm : m < 1024) (hu : u < 10) : am_c1 .ne (nI m &&& (Int32.ofInt 1 <<< (nI u &&& 31))) = m.testBit u := msk_t0 ⟨m, hm⟩ ⟨u, hu⟩
theorem msk_o {m u : Nat} (hm : m < 1024) (hu : u < 10) : nI m ||| (Int32.ofInt 1 <<< (nI u &&& 31)) = nI (m ||| 2 ^ u) := msk_o0 ⟨m, hm⟩ ⟨u, hu⟩
theorem msk_f {n : Nat} (hn : n ≤ 10) : (Int32.ofInt 1 <<< (nI n &&& 31)) - Int32.ofInt 1 = nI (2 ^ n - 1) := msk_f0 ⟨n, by omega⟩
def pcn (m : Nat) : Nat → Nat
  | 0 => 0
  | n + 1 => pcn m n + (if m.testBit n = true then 1 else 0)
theorem pcn_le (m : Nat) : ∀ n, pcn m n ≤ n := by
  intro n
  induction n with
  | zero => exact Nat.le_refl _
  | succ n ih => unfold pcn; split <;> omega
theorem or_bit (m t i : Nat) : (m ||| 2 ^ t).testBit i = (m.testBit i || decide (t = i)) := by
  rw [Nat.testBit_or, Nat.testBit_two_pow]
theorem pcn_or {m t : Nat} (h : m.testBit t = false) : ∀ n, pcn (m ||| 2 ^ t) n = pcn m n + (if t < n then 1 else 0) := by
  intro n
  induction n with
  | zero => rfl
  | succ n ih =>
    unfold pcn
    rw [ih, or_bit]
    by_cases e : t = n
    · subst e; simp [h]
    · have e2 : (t < n + 1 ↔ t < n) := by omega
      simp only [e, decide_false, Bool.or_false, e2]
      omega
theorem pcn_full {m : Nat} : ∀ n, n ≤ pcn m n → ∀ t, t < n → m.testBit t = true := by
  intro n
  induction n with
  | zero => intro _ t ht; omega
  | succ n ih =>
    intro h t ht
    have h1 := pcn_le m n
    unfold pcn at h
    split at h
    · rename_i hb
      rcases Nat.lt_or_ge t n with h2 | h2
      · exact ih (by omega) t h2
      · have e : t = n := by omega
        rw [e]; exact hb
    · omega
theorem or_lt {m t n : Nat} (hm : m < 2 ^ n) (ht : t < n) : m ||| 2 ^ t < 2 ^ n := Nat.or_lt_two_pow hm (Nat.pow_lt_pow_right (by decide) ht)
theorem all_bits {m n : Nat} (hm : m < 2 ^ n) (h : ∀ t, t < n → m.testBit t = true) : m = 2 ^ n - 1 := by
  apply Nat.eq_of_testBit_eq
  intro i
  rw [Nat.testBit_two_pow_sub_one]
  by_cases hi : i < n
  · rw [h i hi]; simp [hi]
  · rw [Nat.testBit_lt_two_pow (Nat.lt_of_lt_of_le hm (Nat.pow_le_pow_right (by decide) (by omega)))]; simp [hi]
section CHK
variable {X : Nat × (Nat → Int32)} {d : Nat} {S : am_S} {Q : am_R → Prop} {c : Nat} {τ : jTT}
theorem q_isPlain {w : Nat} (hw : w < 2 ^ 31) (h1 : 2 ≤ w ∧ w ≤ 10 → Q (.inl (some (.int 1)), S)) (h0 : ¬ (2 ≤ w ∧ w ≤ 10) → Q (.inl (some (.int 0)), S)) : ev X (d + 1) 12 [.ref c, .int (nI w)] S Q := by
  refine ev_wp (L0 := [some (.ref c), some (.int (nI w))]) (Nat.le_of_ble_eq_true rfl) rfl ?_
  iterate 2 refine wp_step rfl rfl ?_
  refine wp_icmp rfl (fun c0 => ?_) (fun c0 => ?_)
  · replace c0 := n_lt_t (a := w) (b := 2) (by omega) (by omega) c0
    refine wp_step rfl rfl ?_
    refine wp_iret rfl rfl rfl (h0 (by omega))
  · replace c0 := n_lt_f (a := w) (b := 2) (by omega) (by omega) c0
    iterate 2 refine wp_step rfl rfl ?_
    refine wp_icmp rfl (fun c2 => ?_) (fun c2 => ?_)
    · replace c2 := n_gt_t (a := w) (b := 10) (by omega) (by omega) c2
      refine wp_step rfl rfl ?_
      refine wp_iret rfl rfl rfl (h0 (by omega))
    · replace c2 := n_gt_f (a := w) (b := 10) (by omega) (by omega) c2
      iterate 2 refine wp_step rfl rfl ?_
      refine wp_iret rfl rfl rfl (h1 (by omega))
theorem q_tw {w : Nat} (hw : wfT τ) (h : ckO S c τ) (hc : c < 900000) (hw : w < 2 ^ 31) (hq : Q (.inl (some (.int (oI (tix τ w)))), S)) : ev X (d + 1) 11 [.ref c, .int (nI w)] S Q := by
  obtain ⟨⟨st, en, tk, fq, nc, h0⟩, h1, h2⟩ := h
  rename_i hwf
  exact q_typeWithId h0 h1 h2 (fun i x hx => by have := (wf_ty hwf hx).1; unfold tyOK at this; omega) hwf.1 hc hw hq
theorem q_isStructure {w : Nat} (hwf : wfT τ) (h : ckO S c τ) (hc : c < 900000) (hw : w < 2 ^ 31) (h1 : isKd τ w 0 → Q (.inl (some (.int 1)), S)) (h0 : ¬ isKd τ w 0 → Q (.inl (some (.int 0)), S)) : ev X (d + 2) 13 [.ref c, .int (nI w)] S Q := by
  obtain ⟨⟨st, en, tk, fq, nc, g0⟩, ⟨F, g1, gF⟩, g2⟩ := id h
  refine ev_wp (L0 := [some (.ref c), some (.int (nI w)), none]) (Nat.le_of_ble_eq_true rfl) rfl ?_
  iterate 2 refine wp_step rfl rfl ?_
  refine wp_c0 rfl rfl (by decide) rfl (recv_ok g0 rfl) rfl (q_tw hwf h hc hw ?_)
  iterate 2 refine wp_step rfl rfl ?_
  cases hx : tix τ w with
  | none =>
    refine wp_if_t rfl (by decide) ?_
    refine wp_step rfl rfl ?_
    refine wp_iret rfl rfl rfl (h0 (fun ⟨t, x, h9, _⟩ => by rw [hx] at h9; cases h9))
  | some t =>
    rw [show oI (some t) = nI t from rfl]
    obtain ⟨y, hy, hy1, ht⟩ := tix_some hx
    have hl := hwf.1
    have hty := (wf_ty hwf hy).1
    unfold tyOK at hty
    refine wp_if_f rfl (show am_c1 .lt (nI t) = false from decide_eq_false (nI_pos (by omega))) ?_
    refine wp_step rfl rfl ?_
    refine wp_getg rfl g0 (by decide) rfl ?_
    refine wp_step rfl rfl ?_
    refine wp_aald rfl (by omega) g1 (by decide) (am_in_nI (by omega) (by decide)) ?_
    rw [nI_clamp (by omega)]
    rw [gF t (by omega)]
    refine wp_getg (v := .int (nI y.2.2.1)) rfl (g2 t y hy).1 (by decide) rfl ?_
    refine wp_if rfl (fun c1 => ?_) (fun c1 => ?_)
    · replace c1 := z_ne_t (a := y.2.2.1) (by omega) c1
      refine wp_step rfl rfl ?_
      refine wp_iret rfl rfl rfl (h0 (fun ⟨t2, z, a1, a2, a3⟩ => by rw [hx] at a1; cases a1; rw [hy] at a2; cases a2; omega))
    · replace c1 := z_ne_f (a := y.2.2.1) (by omega) c1
      iterate 2 refine wp_step rfl rfl ?_
      refine wp_iret rfl rfl rfl (h1 ⟨t, y, hx, hy, by omega⟩)
theorem q_isForEvents {w : Nat} (hwf : wfT τ) (h : ckO S c τ) (hc : c < 900000) (hw : w < 2 ^ 31) (h1 : isKd τ w 1 → Q (.inl (some (.int 1)), S)) (h0 : ¬ isKd τ w 1 → Q (.inl (some (.int 0)), S)) : ev X (d + 2) 14 [.ref c, .int (nI w)] S Q := by
  obtain ⟨⟨st, en, tk, fq, nc, g0⟩, ⟨F, g1, gF⟩, g2⟩ := id h
  refine ev_wp (L0 := [some (.ref c), some (.int (nI w)), none]) (Nat.le_of_ble_eq_true rfl) rfl ?_
  iterate 2 refine wp_step rfl rfl ?_
  refine wp_c0 rfl rfl (by decide) rfl (recv_ok g0 rfl) rfl (q_tw hwf h hc hw ?_)
  iterate 2 refine wp_step rfl rfl ?_
  cases hx : tix τ w with
  | none =>
    refine wp_if_t rfl (by decide) ?_
    refine wp_step rfl rfl ?_
    refine wp_iret rfl rfl rfl (h0 (fun ⟨t, x, h9, _⟩ => by rw [hx] at h9; cases h9))
  | some t =>
    rw [show oI (some t) = nI t from rfl]
    obtain ⟨y, hy, hy1, ht⟩ := tix_some hx
    have hl := hwf.1
    have hty := (wf_ty hwf hy).1
    unfold tyOK at hty
    refine wp_if_f rfl (show am_c1 .lt (nI t) = false from decide_eq_false (nI_pos (by omega))) ?_
    refine wp_step rfl rfl ?_
    refine wp_getg rfl g0 (by decide) rfl ?_
    refine wp_step rfl rfl ?_
    refine wp_aald rfl (by omega) g1 (by decide) (am_in_nI (by omega) (by decide)) ?_
    rw [nI_clamp (by omega)]
    rw [gF t (by omega)]
    refine wp_getg (v := .int (nI y.2.2.1)) rfl (g2 t y hy).1 (by decide) rfl ?_
    refine wp_if rfl (fun c1 => ?_) (fun c1 => ?_)
    · replace c1 := z_eq_t (a := y.2.2.1) (by omega) c1
      refine wp_step rfl rfl ?_
      refine wp_iret rfl rfl rfl (h0 (fun ⟨t2, z, a1, a2, a3⟩ => by rw [hx] at a1; cases a1; rw [hy] at a2; cases a2; omega))
    · replace c1 := z_eq_f (a := y.2.2.1) (by omega) c1
      iterate 2 refine wp_step rfl rfl ?_
      refine wp_iret rfl rfl rfl (h1 ⟨t, y, hx, hy, by omega⟩)
set_option maxHeartbeats 1000000 in
theorem fh_in (hwf : wfT τ) (h : ckO S c τ) (hc : c < 900000) {t : Nat} {x : jTy} (hx : τ[t]? = some x) (hbad : ∀ (f : Nat) (y : jFd), x.2.2.2[f]? = some y → ¬ goodF τ y → Q (.inl (some (.int 0)), S)) :
    ∀ (m f : Nat) (x3 : Option Value), f + m = x.2.2.2.length → (∀ f9 x9, (∀ (f2 : Nat) (y : jFd), f ≤ f2 → x.2.2.2[f2]? = some y → goodF τ y) → wp X (d + 2) 8 77 [some (.ref c), some (.int (nI t)), some (.int (nI f9)), x9] [] S Q) →
      wp X (d + 2) 8 12 [some (.ref c), some (.int (nI t)), some (.int (nI f)), x3] [] S Q := by
  obtain ⟨⟨st, en, tk, fq, nc, g0⟩, ⟨F, g1, gF⟩, g2⟩ := id h
  have hlt := (wf_ty hwf hx).2
  have hxo := (wf_ty hwf hx).1
  unfold tyOK at hxo
  have hl := hwf.1
  intro m
  induction m with
  | zero =>
    intro f x3 hi hgo
    iterate 2 refine wp_step rfl rfl ?_
    refine wp_getg rfl g0 (by decide) rfl ?_
    refine wp_step rfl rfl ?_
    refine wp_aald rfl (by omega) g1 (by decide) (am_in_nI (by omega) (by decide)) ?_
    rw [nI_clamp (by omega)]
    rw [gF t (by omega)]
    refine wp_getg (v := .int (nI x.2.2.2.length)) rfl (g2 t x hx).1 (by decide) rfl ?_
    refine wp_icmp rfl (fun c0 => ?_) (fun c0 => ?_)
    · replace c0 := n_ge_t (a := f) (b := x.2.2.2.length) (by omega) (by omega) c0
      exact hgo _ _ (fun f2 y h8 h9 => by have := (List.getElem?_eq_some_iff.mp h9).1; omega)
    · replace c0 := n_ge_f (a := f) (b := x.2.2.2.length) (by omega) (by omega) c0
      omega
  | succ m ih =>
    intro f x3 hi hgo
    iterate 2 refine wp_step rfl rfl ?_
    refine wp_getg rfl g0 (by decide) rfl ?_
    refine wp_step rfl rfl ?_
    refine wp_aald rfl (by omega) g1 (by decide) (am_in_nI (by omega) (by decide)) ?_
    rw [nI_clamp (by omega)]
    rw [gF t (by omega)]
    refine wp_getg (v := .int (nI x.2.2.2.length)) rfl (g2 t x hx).1 (by decide) rfl ?_
    refine wp_icmp rfl (fun c0 => ?_) (fun c0 => ?_)
    · replace c0 := n_ge_t (a := f) (b := x.2.2.2.length) (by omega) (by omega) c0
      omega
    · replace c0 := n_ge_f (a := f) (b := x.2.2.2.length) (by omega) (by omega) c0
      obtain ⟨y, hy⟩ : ∃ y, x.2.2.2[f]? = some y := ⟨x.2.2.2[f], List.getElem?_eq_getElem (by omega)⟩
      have hyo := (wf_fd hwf hx hy).1
      unfold fdOK at hyo
      obtain ⟨q0, f1, f2, f3, q1, q2, q3, q4⟩ := g2 t x hx
      refine wp_step rfl rfl ?_
      refine wp_getg rfl g0 (by decide) rfl ?_
      refine wp_step rfl rfl ?_
      refine wp_aald rfl (by omega) g1 (by decide) (am_in_nI (by omega) (by decide)) ?_
      rw [nI_clamp (by omega)]
      rw [gF t (by omega)]
      refine wp_getg rfl q0 (by decide) rfl ?_
      refine wp_step rfl rfl ?_
      refine wp_ald rfl (Or.inl ⟨rfl, rfl⟩) (by omega) q2 (am_in_nI (by omega) (by decide)) ?_
      rw [nI_clamp (by omega)]
      rw [(q4 f y hy).2.1]
      have on : goodF τ y → wp X (d + 2) 8 71 [some (.ref c), some (.int (nI t)), some (.int (nI f)), some (.int (nI y.2.1))] [] S Q := by
        intro hg
        iterate 2 refine wp_step rfl rfl ?_
        rw [show nI f + Int32.ofInt 1 = nI (f + 1) from nI_add f 1]
        exact ih (f + 1) _ (by omega) (fun f9 x9 h9 => hgo f9 x9 (fun f2 z h8 h10 => by
          rcases Nat.eq_or_lt_of_le h8 with e | e
          · subst e; rw [hy] at h10; cases h10; exact hg
          · exact h9 f2 z e h10))
      iterate 3 refine wp_step rfl rfl ?_
      refine wp_c0 rfl rfl (by decide) rfl (recv_ok g0 rfl) rfl (q_isPlain (by omega) (fun hp => ?_) (fun hp => ?_))
      · refine wp_if_t rfl (by decide) ?_
        exact on (Or.inl hp)
      · refine wp_if_f rfl (by decide) ?_
        iterate 2 refine wp_step rfl rfl ?_
        refine wp_c0 rfl rfl (by decide) rfl (recv_ok g0 rfl) rfl (q_isStructure hwf h hc (by omega) (fun hs => ?_) (fun hs => ?_))
        · refine wp_if_f rfl (by decide) ?_
          obtain ⟨u, z, hu, hz, hz0⟩ := hs
          have hul := (wf_ty hwf hz).2
          have hzo := (wf_ty hwf hz).1
          unfold tyOK at hzo
          refine wp_step rfl rfl ?_
          refine wp_getg rfl g0 (by decide) rfl ?_
          iterate 2 refine wp_step rfl rfl ?_
          refine wp_c0 rfl rfl (by decide) rfl (recv_ok g0 rfl) rfl (q_tw hwf h hc (by omega) ?_)
          rw [hu]
          show wp X (d + 2) 8 62 _ [.int (nI u), .ref (c + 1)] S Q
          refine wp_aald rfl (by omega) g1 (by decide) (am_in_nI (by omega) (by decide)) ?_
          rw [nI_clamp (by omega)]
          rw [gF u (by omega)]
          refine wp_getg (v := .int (nI z.2.2.2.length)) rfl (g2 u z hz).1 (by decide) rfl ?_
          refine wp_if rfl (fun c2 => ?_) (fun c2 => ?_)
          · replace c2 := z_ne_t (a := z.2.2.2.length) (by omega) c2
            exact on (Or.inr ⟨u, z, hu, hz, hz0, c2⟩)
          · replace c2 := z_ne_f (a := z.2.2.2.length) (by omega) c2
            refine wp_step rfl rfl ?_
            refine wp_iret rfl rfl rfl (hbad f y hy (fun h9 => by
              rcases h9 with h9 | ⟨u2, z2, h10, h11, h12, h13⟩
              · exact hp h9
              · rw [hu] at h10; cases h10; rw [hz] at h11; cases h11; exact h13 c2))
        · refine wp_if_t rfl (by decide) ?_
          refine wp_step rfl rfl ?_
          refine wp_iret rfl rfl rfl (hbad f y hy (fun h9 => by
            rcases h9 with h9 | ⟨u, z, h10, h11, h12, h13⟩
            · exact hp h9
            · exact hs ⟨u, z, h10, h11, h12⟩))
theorem fh_out (hwf : wfT τ) (h : ckO S c τ) (hc : c < 900000) (h1 : fht τ → Q (.inl (some (.int 1)), S)) (h0 : ¬ fht τ → Q (.inl (some (.int 0)), S)) :
    ∀ (m t : Nat) (x2 x3 : Option Value), t + m = τ.length → (∀ (t2 : Nat) (x : jTy) (f : Nat) (y : jFd), t2 < t → τ[t2]? = some x → x.2.2.2[f]? = some y → goodF τ y) → wp X (d + 2) 8 2 [some (.ref c), some (.int (nI t)), x2, x3] [] S Q := by
  obtain ⟨⟨st, en, tk, fq, nc, g0⟩, ⟨F, g1, gF⟩, g2⟩ := id h
  have hl := hwf.1
  intro m
  induction m with
  | zero =>
    intro t x2 x3 hi hpre
    iterate 2 refine wp_step rfl rfl ?_
    refine wp_getg rfl g0 (by decide) rfl ?_
    refine wp_icmp rfl (fun c0 => ?_) (fun c0 => ?_)
    · replace c0 := n_ge_t (a := t) (b := τ.length) (by omega) (by omega) c0
      refine wp_step rfl rfl ?_
      refine wp_iret rfl rfl rfl (h1 (fun t2 x f y a1 a2 => hpre t2 x f y (by have := (List.getElem?_eq_some_iff.mp a1).1; omega) a1 a2))
    · replace c0 := n_ge_f (a := t) (b := τ.length) (by omega) (by omega) c0
      omega
  | succ m ih =>
    intro t x2 x3 hi hpre
    iterate 2 refine wp_step rfl rfl ?_
    refine wp_getg rfl g0 (by decide) rfl ?_
    refine wp_icmp rfl (fun c0 => ?_) (fun c0 => ?_)
    · replace c0 := n_ge_t (a := t) (b := τ.length) (by omega) (by omega) c0
      omega
    · replace c0 := n_ge_f (a := t) (b := τ.length) (by omega) (by omega) c0
      obtain ⟨x, hx⟩ : ∃ x, τ[t]? = some x := ⟨τ[t], List.getElem?_eq_getElem (by omega)⟩
      iterate 2 refine wp_step rfl rfl ?_
      refine fh_in hwf h hc hx (fun f y hy hn => h0 (fun h9 => hn (h9 t x f y hx hy))) x.2.2.2.length 0 _ (by omega) (fun f9 x9 hall => ?_)
      iterate 2 refine wp_step rfl rfl ?_
      rw [show nI t + Int32.ofInt 1 = nI (t + 1) from nI_add t 1]
      refine ih (t + 1) _ _ (by omega) (fun t2 x2 f2 y2 h8 a1 a2 => ?_)
      rcases Nat.eq_or_lt_of_le (Nat.le_of_lt_succ h8) with e | e
      · subst e; rw [hx] at a1; cases a1; exact hall f2 y2 (Nat.zero_le _) a2
      · exact hpre t2 x2 f2 y2 e a1 a2
theorem q_fieldsHaveTypes (hwf : wfT τ) (h : ckO S c τ) (hc : c < 900000) (h1 : fht τ → Q (.inl (some (.int 1)), S)) (h0 : ¬ fht τ → Q (.inl (some (.int 0)), S)) : ev X (d + 3) 8 [.ref c] S Q := by
  refine ev_wp (L0 := [some (.ref c), none, none, none]) (Nat.le_of_ble_eq_true rfl) rfl ?_
  iterate 2 refine wp_step rfl rfl ?_
  exact fh_out hwf h hc h1 h0 τ.length 0 _ _ (by omega) (fun t2 x f y h9 => by omega)
end CHK
end
section
/-! Chunk.holdsOnly, Chunk.someHoldItself -/
section RING
variable {X : Nat × (Nat → Int32)} {d : Nat} {S : am_S} {Q : am_R → Prop} {c : Nat} {τ : jTT}
set_option maxHeartbeats 1000000 in
theorem ho_loop (hwf : wfT τ) (h : ckO S c τ) (hc : c < 900000) {t m : Nat} {x : jTy} (hx : τ[t]? = some x) (hm : m < 1024) (h1 : (∀ u, edge τ t u → m.testBit u = true) → Q (.inl (some (.int 1)), S)) (h0 : ∀ u, edge τ t u → m.testBit u = false → Q (.inl (some (.int 0)), S)) :
    ∀ (j f : Nat) (x4 x5 : Option Value), f + j = x.2.2.2.length → (∀ (f2 : Nat) (y : jFd) (u : Nat), f2 < f → x.2.2.2[f2]? = some y → y.2.2 % 2 = 0 → tix τ y.2.1 = some u → m.testBit u = true) →
      wp X (d + 1) 10 2 [some (.ref c), some (.ref (c + 5 + 4 * t)), some (.int (nI m)), some (.int (nI f)), x4, x5] [] S Q := by
  obtain ⟨⟨st, en, tk, fq, nc, g0⟩, ⟨F, g1, gF⟩, g2⟩ := id h
  have hlt := (wf_ty hwf hx).2
  have hxo := (wf_ty hwf hx).1
  unfold tyOK at hxo
  have hl := hwf.1
  obtain ⟨q0, f1, f2, f3, q1, q2, q3, q4⟩ := g2 t x hx
  intro j
  induction j with
  | zero =>
    intro f x4 x5 hi hpre
    iterate 2 refine wp_step rfl rfl ?_
    refine wp_getg rfl q0 (by decide) rfl ?_
    refine wp_icmp rfl (fun c0 => ?_) (fun c0 => ?_)
    · replace c0 := n_ge_t (a := f) (b := x.2.2.2.length) (by omega) (by omega) c0
      refine wp_step rfl rfl ?_
      refine wp_iret rfl rfl rfl (h1 (fun u ⟨x2, f2, y2, a1, a2, a3, a4⟩ => by rw [hx] at a1; cases a1; exact hpre f2 y2 u (by have := (List.getElem?_eq_some_iff.mp a2).1; omega) a2 a3 a4))
    · replace c0 := n_ge_f (a := f) (b := x.2.2.2.length) (by omega) (by omega) c0
      omega
  | succ j ih =>
    intro f x4 x5 hi hpre
    iterate 2 refine wp_step rfl rfl ?_
    refine wp_getg rfl q0 (by decide) rfl ?_
    refine wp_icmp rfl (fun c0 => ?_) (fun c0 => ?_)
    · replace c0 := n_ge_t (a := f) (b := x.2.2.2.length) (by omega) (by omega) c0
      omega
    · replace c0 := n_ge_f (a := f) (b := x.2.2.2.length) (by omega) (by omega) c0
      obtain ⟨y, hy⟩ : ∃ y, x.2.2.2[f]? = some y := ⟨x.2.2.2[f], List.getElem?_eq_getElem (by omega)⟩
      have hyo := (wf_fd hwf hx hy).1
      unfold fdOK at hyo
      have on : ∀ x4 x5, (∀ u, y.2.2 % 2 = 0 → tix τ y.2.1 = some u → m.testBit u = true) → wp X (d + 1) 10 61 [some (.ref c), some (.ref (c + 5 + 4 * t)), some (.int (nI m)), some (.int (nI f)), x4, x5] [] S Q := by
        intro x4 x5 hg
        iterate 2 refine wp_step rfl rfl ?_
        rw [show nI f + Int32.ofInt 1 = nI (f + 1) from nI_add f 1]
        exact ih (f + 1) _ _ (by omega) (fun f2 y2 u h8 a2 a3 a4 => by
          rcases Nat.eq_or_lt_of_le (Nat.le_of_lt_succ h8) with e | e
          · subst e; rw [hy] at a2; cases a2; exact hg u a3 a4
          · exact hpre f2 y2 u e a2 a3 a4)
      iterate 2 refine wp_step rfl rfl ?_
      refine wp_getg rfl q0 (by decide) rfl ?_
      refine wp_step rfl rfl ?_
      refine wp_ald rfl (Or.inl ⟨rfl, rfl⟩) (by omega) q2 (am_in_nI (by omega) (by decide)) ?_
      rw [nI_clamp (by omega)]
      rw [(q4 f y hy).2.1]
      refine wp_c0 rfl rfl (by decide) rfl (recv_ok g0 rfl) rfl (q_tw hwf h hc (by omega) ?_)
      iterate 2 refine wp_step rfl rfl ?_
      refine wp_getg rfl q0 (by decide) rfl ?_
      refine wp_step rfl rfl ?_
      refine wp_ald rfl (Or.inl ⟨rfl, rfl⟩) (by omega) q3 (am_in_nI (by omega) (by decide)) ?_
      rw [nI_clamp (by omega)]
      rw [(q4 f y hy).2.2]
      iterate 2 refine wp_step rfl rfl ?_
      rw [pk_andN (by omega) 1 rfl]
      refine wp_if rfl (fun c1 => ?_) (fun c1 => ?_)
      · replace c1 := z_eq_t (a := y.2.2 % 2 ^ 1) (by omega) c1
        iterate 3 refine wp_step rfl rfl ?_
        refine wp_if_f rfl (by decide) ?_
        refine wp_step rfl rfl ?_
        cases hu : tix τ y.2.1 with
        | none =>
          refine wp_if_t rfl (by decide) ?_
          exact on _ _ (fun u _ h9 => by rw [hu] at h9; cases h9)
        | some u =>
          rw [show oI (some u) = nI u from rfl]
          obtain ⟨z, hz, hz1, hul⟩ := tix_some hu
          refine wp_if_f rfl (show am_c1 .lt (nI u) = false from decide_eq_false (nI_pos (by omega))) ?_
          iterate 5 refine wp_step rfl rfl ?_
          refine wp_if rfl (fun c2 => ?_) (fun c2 => ?_)
          · rw [msk_t hm (by omega)] at c2
            exact on _ _ (fun u2 _ h9 => by rw [hu] at h9; cases h9; exact c2)
          · rw [msk_t hm (by omega)] at c2
            refine wp_step rfl rfl ?_
            refine wp_iret rfl rfl rfl (h0 u ⟨x, f, y, hx, hy, by omega, hu⟩ c2)
      · replace c1 := z_eq_f (a := y.2.2 % 2 ^ 1) (by omega) c1
        iterate 4 refine wp_step rfl rfl ?_
        refine wp_if_t rfl (by decide) ?_
        exact on _ _ (fun u h8 => by omega)
theorem q_holdsOnly (hwf : wfT τ) (h : ckO S c τ) (hc : c < 900000) {t m : Nat} {x : jTy} (hx : τ[t]? = some x) (hm : m < 1024) (h1 : (∀ u, edge τ t u → m.testBit u = true) → Q (.inl (some (.int 1)), S)) (h0 : ∀ u, edge τ t u → m.testBit u = false → Q (.inl (some (.int 0)), S)) : ev X (d + 2) 10 [.ref c, .ref (c + 5 + 4 * t), .int (nI m)] S Q := by
  refine ev_wp (L0 := [some (.ref c), some (.ref (c + 5 + 4 * t)), some (.int (nI m)), none, none, none]) (Nat.le_of_ble_eq_true rfl) rfl ?_
  iterate 2 refine wp_step rfl rfl ?_
  exact ho_loop hwf h hc hx hm h1 h0 x.2.2.2.length 0 _ _ (by omega) (fun f2 y u h9 => by omega)
def stuckAt (τ : jTT) (m s : Nat) : Prop := ∃ u, edge τ s u ∧ m.testBit u = false
def stuck (τ : jTT) (m : Nat) : Prop := ∀ s, s < τ.length → m.testBit s = false → stuckAt τ m s
/-- what is cleared is in order -/
def okM (τ : jTT) (m : Nat) : Prop := m < 2 ^ τ.length ∧ ∃ rk : Nat → Nat, (∀ t, m.testBit t = true → rk t < pcn m τ.length) ∧ ∀ t u, m.testBit t = true → edge τ t u → m.testBit u = true ∧ rk u < rk t
theorem okM_add {m t : Nat} (h : okM τ m) (ht : t < τ.length) (hb : m.testBit t = false) (he : ∀ u, edge τ t u → m.testBit u = true) : okM τ (m ||| 2 ^ t) ∧ pcn (m ||| 2 ^ t) τ.length = pcn m τ.length + 1 := by
  obtain ⟨h1, rk, h2, h3⟩ := h
  have hp : pcn (m ||| 2 ^ t) τ.length = pcn m τ.length + 1 := by rw [pcn_or hb, if_pos ht]
  refine ⟨⟨or_lt h1 ht, va_up rk t (pcn m τ.length), fun s hs => ?_, fun s u hs hsu => ?_⟩, hp⟩
  · rw [hp]
    unfold va_up
    split
    · omega
    · rename_i hne
      rw [or_bit] at hs
      have hms : m.testBit s = true := by simpa [show ¬ t = s from fun e => hne e.symm] using hs
      have := h2 s hms
      omega
  · have hmu : m.testBit u = true := by
      by_cases e : s = t
      · subst e; exact he u hsu
      · rw [or_bit] at hs
        have hms : m.testBit s = true := by simpa [show ¬ t = s from fun e2 => e e2.symm] using hs
        exact (h3 s u hms hsu).1
    refine ⟨by rw [or_bit, hmu]; rfl, ?_⟩
    have hut : ¬ u = t := fun e => by rw [e, hb] at hmu; cases hmu
    unfold va_up
    rw [if_neg hut]
    split
    · exact h2 u hmu
    · rename_i hne
      rw [or_bit] at hs
      have hms : m.testBit s = true := by simpa [show ¬ t = s from fun e => hne e.symm] using hs
      exact (h3 s u hms hsu).2
theorem or_self {m t : Nat} (h : m.testBit t = true) : m ||| 2 ^ t = m := by
  apply Nat.eq_of_testBit_eq
  intro i
  rw [or_bit]
  by_cases e : t = i
  · subst e; simp [h]
  · simp [e]
theorem lt1024 {m : Nat} (hl : τ.length ≤ 10) (h : m < 2 ^ τ.length) : m < 1024 := Nat.lt_of_lt_of_le h (Nat.pow_le_pow_right (n := 2) (by decide) hl)
set_option maxHeartbeats 1000000 in
theorem sh_in (hwf : wfT τ) (h : ckO S c τ) (hc : c < 900000) {m0 : Nat} {x2 : Int32} (hgo : ∀ m x3, okM τ m → (m = m0 ∧ stuck τ m) ∨ (¬ stuck τ m0 ∧ pcn m0 τ.length + 1 ≤ pcn m τ.length) → wp X (d + 2) 9 48 [some (.ref c), some (.int (nI m)), some (.int x2), x3] [] S Q) :
    ∀ (j t m : Nat), t + j = τ.length → okM τ m → ((m = m0 ∧ ∀ s, s < t → m.testBit s = false → stuckAt τ m s) ∨ (¬ stuck τ m0 ∧ pcn m0 τ.length + 1 ≤ pcn m τ.length)) → wp X (d + 2) 9 14 [some (.ref c), some (.int (nI m)), some (.int x2), some (.int (nI t))] [] S Q := by
  obtain ⟨⟨st, en, tk, fq, nc, g0⟩, ⟨F, g1, gF⟩, g2⟩ := id h
  have hl := hwf.1
  intro j
  induction j with
  | zero =>
    intro t m hi hok hI
    iterate 2 refine wp_step rfl rfl ?_
    refine wp_getg rfl g0 (by decide) rfl ?_
    refine wp_icmp rfl (fun c0 => ?_) (fun c0 => ?_)
    · replace c0 := n_ge_t (a := t) (b := τ.length) (by omega) (by omega) c0
      have e : t = τ.length := by omega
      exact hgo m _ hok (by
        rcases hI with ⟨e1, h9⟩ | h9
        · left; subst e1; exact ⟨rfl, fun s hs hb => h9 s (by omega) hb⟩
        · right; exact h9)
    · replace c0 := n_ge_f (a := t) (b := τ.length) (by omega) (by omega) c0
      omega
  | succ j ih =>
    intro t m hi hok hI
    iterate 2 refine wp_step rfl rfl ?_
    refine wp_getg rfl g0 (by decide) rfl ?_
    refine wp_icmp rfl (fun c0 => ?_) (fun c0 => ?_)
    · replace c0 := n_ge_t (a := t) (b := τ.length) (by omega) (by omega) c0
      omega
    · replace c0 := n_ge_f (a := t) (b := τ.length) (by omega) (by omega) c0
      obtain ⟨x, hx⟩ : ∃ x, τ[t]? = some x := ⟨τ[t], List.getElem?_eq_getElem (by omega)⟩
      have hm := lt1024 hl hok.1
      iterate 2 refine wp_step rfl rfl ?_
      refine wp_getg rfl g0 (by decide) rfl ?_
      refine wp_step rfl rfl ?_
      refine wp_aald rfl (by omega) g1 (by decide) (am_in_nI (by omega) (by decide)) ?_
      rw [nI_clamp (by omega)]
      rw [gF t (by omega)]
      refine wp_step rfl rfl ?_
      refine wp_c0 rfl rfl (by decide) rfl (recv_ok g0 rfl) rfl (q_holdsOnly hwf h hc hx hm (fun he => ?_) (fun u he hb => ?_))
      · refine wp_if_f rfl (by decide) ?_
        iterate 6 refine wp_step rfl rfl ?_
        rw [msk_o hm (by omega)]
        iterate 2 refine wp_step rfl rfl ?_
        rw [show nI t + Int32.ofInt 1 = nI (t + 1) from nI_add t 1]
        cases hb : m.testBit t with
        | true =>
          rw [or_self hb]
          refine ih (t + 1) m (by omega) hok ?_
          rcases hI with ⟨e1, h9⟩ | h9
          · left
            refine ⟨e1, fun s hs hsb => ?_⟩
            rcases Nat.eq_or_lt_of_le (Nat.le_of_lt_succ hs) with e | e
            · subst e; rw [hb] at hsb; cases hsb
            · exact h9 s e hsb
          · right; exact h9
        | false =>
          obtain ⟨h8, h9⟩ := okM_add hok (by omega) hb he
          refine ih (t + 1) _ (by omega) h8 (Or.inr ?_)
          rcases hI with ⟨e1, h10⟩ | ⟨h10, h11⟩
          · subst e1
            refine ⟨fun h12 => ?_, by omega⟩
            obtain ⟨u, hu, hub⟩ := h12 t (by omega) hb
            rw [he u hu] at hub
            cases hub
          · exact ⟨h10, by omega⟩
      · refine wp_if_t rfl (by decide) ?_
        iterate 2 refine wp_step rfl rfl ?_
        rw [show nI t + Int32.ofInt 1 = nI (t + 1) from nI_add t 1]
        refine ih (t + 1) m (by omega) hok ?_
        rcases hI with ⟨e1, h9⟩ | h9
        · left
          refine ⟨e1, fun s hs hsb => ?_⟩
          rcases Nat.eq_or_lt_of_le (Nat.le_of_lt_succ hs) with e | e
          · subst e; exact ⟨u, he, hb⟩
          · exact h9 s e hsb
        · right; exact h9
theorem sh_out (hwf : wfT τ) (h : ckO S c τ) (hc : c < 900000) (hgo : ∀ m x3, okM τ m → stuck τ m ∨ (∀ t, t < τ.length → m.testBit t = true) → wp X (d + 2) 9 54 [some (.ref c), some (.int (nI m)), some (.int (nI τ.length)), x3] [] S Q) :
    ∀ (j k m : Nat) (x3 : Option Value), k + j = τ.length → okM τ m → stuck τ m ∨ k ≤ pcn m τ.length → wp X (d + 2) 9 4 [some (.ref c), some (.int (nI m)), some (.int (nI k)), x3] [] S Q := by
  obtain ⟨⟨st, en, tk, fq, nc, g0⟩, ⟨F, g1, gF⟩, g2⟩ := id h
  have hl := hwf.1
  intro j
  induction j with
  | zero =>
    intro k m x3 hi hok hI
    have e : k = τ.length := by omega
    subst e
    iterate 2 refine wp_step rfl rfl ?_
    refine wp_getg rfl g0 (by decide) rfl ?_
    refine wp_icmp rfl (fun c0 => ?_) (fun c0 => ?_)
    · replace c0 := n_ge_t (a := τ.length) (b := τ.length) (by omega) (by omega) c0
      exact hgo m _ hok (by
        rcases hI with h9 | h9
        · exact Or.inl h9
        · right; intro t ht; exact pcn_full τ.length (by omega) t ht)
    · replace c0 := n_ge_f (a := τ.length) (b := τ.length) (by omega) (by omega) c0
      omega
  | succ j ih =>
    intro k m x3 hi hok hI
    iterate 2 refine wp_step rfl rfl ?_
    refine wp_getg rfl g0 (by decide) rfl ?_
    refine wp_icmp rfl (fun c0 => ?_) (fun c0 => ?_)
    · replace c0 := n_ge_t (a := k) (b := τ.length) (by omega) (by omega) c0
      omega
    · replace c0 := n_ge_f (a := k) (b := τ.length) (by omega) (by omega) c0
      iterate 2 refine wp_step rfl rfl ?_
      refine sh_in hwf h hc (m0 := m) (fun m2 x3 h8 h9 => ?_) τ.length 0 m (by omega) hok (Or.inl ⟨rfl, fun s hs => by omega⟩)
      iterate 2 refine wp_step rfl rfl ?_
      rw [show nI k + Int32.ofInt 1 = nI (k + 1) from nI_add k 1]
      refine ih (k + 1) m2 _ (by omega) h8 ?_
      rcases h9 with ⟨_, h10⟩ | ⟨h10, h11⟩
      · exact Or.inl h10
      · rcases hI with h12 | h12
        · exact absurd h12 h10
        · right; omega
set_option maxHeartbeats 1000000 in
theorem q_someHoldItself (hwf : wfT τ) (h : ckO S c τ) (hc : c < 900000) (h1 : ring τ → Q (.inl (some (.int 1)), S)) (h0 : nocyc τ → Q (.inl (some (.int 0)), S)) : ev X (d + 3) 9 [.ref c] S Q := by
  obtain ⟨⟨st, en, tk, fq, nc, g0⟩, ⟨F, g1, gF⟩, g2⟩ := id h
  have hl := hwf.1
  refine ev_wp (L0 := [some (.ref c), none, none, none]) (Nat.le_of_ble_eq_true rfl) rfl ?_
  iterate 4 refine wp_step rfl rfl ?_
  refine sh_out hwf h hc (fun m x3 hok hI => ?_) τ.length 0 0 _ (by omega) ⟨Nat.two_pow_pos _, fun _ => 0, fun t ht => by simp at ht, fun t u ht => by simp at ht⟩ (Or.inr (Nat.zero_le _))
  iterate 3 refine wp_step rfl rfl ?_
  refine wp_getg rfl g0 (by decide) rfl ?_
  iterate 3 refine wp_step rfl rfl ?_
  rw [msk_f hl]
  have hm := lt1024 hl hok.1
  have h2 : 2 ^ τ.length - 1 < 1024 := lt1024 hl (Nat.sub_lt (Nat.two_pow_pos _) (by decide))
  refine wp_icmp rfl (fun c1 => ?_) (fun c1 => ?_)
  · replace c1 := n_eq_t (a := m) (b := 2 ^ τ.length - 1) (by omega) (by omega) c1
    refine wp_step rfl rfl ?_
    refine wp_iret rfl rfl rfl (h0 ?_)
    subst c1
    obtain ⟨h3, rk, h4, h5⟩ := hok
    have hall : ∀ t, t < τ.length → (2 ^ τ.length - 1).testBit t = true := fun t ht => by rw [Nat.testBit_two_pow_sub_one]; simp [ht]
    refine ⟨fun t => if t < τ.length then rk t else 0, fun t => ?_, fun t u he => ?_⟩
    · dsimp only
      split
      · rename_i ht
        have h6 := h4 t (hall t ht)
        have h7 := pcn_le (2 ^ τ.length - 1) τ.length
        omega
      · omega
    · obtain ⟨a1, a2⟩ := edge_lt he
      dsimp only
      rw [if_pos a1, if_pos a2]
      exact (h5 t u (hall t a1) he).2
  · replace c1 := n_eq_f (a := m) (b := 2 ^ τ.length - 1) (by omega) (by omega) c1
    iterate 2 refine wp_step rfl rfl ?_
    refine wp_iret rfl rfl rfl (h1 ?_)
    rcases hI with h3 | h3
    · have hex : ∃ t, t < τ.length ∧ m.testBit t = false := by
        refine Classical.byContradiction (fun hn => c1 (all_bits hok.1 (fun t ht => ?_)))
        cases hb : m.testBit t with
        | true => rfl
        | false => exact absurd ⟨t, ht, hb⟩ hn
      obtain ⟨t, ht, hb⟩ := hex
      refine ⟨fun s => s < τ.length ∧ m.testBit s = false, ⟨t, ht, hb⟩, fun s hs => ⟨hs.1, ?_⟩⟩
      obtain ⟨u, hu, hub⟩ := h3 s hs.1 hs.2
      exact ⟨u, ⟨(edge_lt hu).2, hub⟩, hu⟩
    · exact absurd (all_bits hok.1 h3) c1
end RING
end
section
/-! A CHUNK'S TYPES, as its metadata tells them -/
def rdTs (b : Nat → Nat) (lim : Nat) : Nat → jTT → Nat → (Int32 × Nat) ⊕ (jTT × Nat)
  | 0, τ, p => .inr (τ, p)
  | n + 1, τ, p => (match cnt (Bn b) lim p with
    | none => .inl (2, p)
    | some (id, p1) => if id < 16 ∨ tix τ id ≠ none then .inl (4, p) else (match rdT1 b lim id p1 with
      | .inl e => .inl e
      | .inr (x, p') => rdTs b lim n (τ ++ [x]) p'))
def rdM (b : Nat → Nat) (s e : Nat) : (Int32 × Nat) ⊕ jTT :=
  if w2 b (s + 8) < 20 ∨ e ≤ s + w2 b (s + 8) then .inl (3, s + 8) else (match hd (Bn b) (s + w2 b (s + 8)) e with
    | .inl er => .inl er
    | .inr (len, id, p1, p2) => if id ≠ 0 then .inl (3, p1) else (match cnt (Bn b) (s + w2 b (s + 8) + len) p2 with
      | none => .inl (2, p2)
      | some (n, p3) => if 10 < n then .inl (4, p2) else (match rdTs b (s + w2 b (s + 8) + len) n [] p3 with
        | .inl er => .inl er
        | .inr (τ, p4) => if p4 < s + w2 b (s + 8) + len then .inl (5, p4) else .inr τ)))
theorem tix_none {τ : jTT} {w : Nat} (h : tix τ w = none) {t : Nat} {x : jTy} (hx : τ[t]? = some x) : x.1 ≠ w := by
  have h1 := fsti_none h t (Nat.zero_le _) (by have := (List.getElem?_eq_some_iff.mp hx).1; omega)
  intro e
  rw [hx] at h1
  simp [e] at h1
theorem wf_add {τ : jTT} {x : jTy} (h : wfT τ) (hl : τ.length < 10) (hx : tyOK x) (hn : tix τ x.1 = none) : wfT (τ ++ [x]) := by
  obtain ⟨h1, h2, h3⟩ := h
  have at1 : ∀ (i : Nat) (y : jTy), (τ ++ [x])[i]? = some y → (i < τ.length ∧ τ[i]? = some y) ∨ (i = τ.length ∧ y = x) := by
    intro i y hy
    rcases Nat.lt_or_ge i τ.length with hi | hi
    · rw [List.getElem?_append_left hi] at hy; exact Or.inl ⟨hi, hy⟩
    · rw [List.getElem?_append_right hi] at hy
      rcases Nat.eq_or_lt_of_le hi with e | e
      · subst e; simp at hy; exact Or.inr ⟨rfl, hy.symm⟩
      · rw [List.getElem?_eq_none (by simp; omega)] at hy; cases hy
  refine ⟨by simp; omega, fun y hy => ?_, fun i j y z hy hz e => ?_⟩
  · rcases List.mem_append.mp hy with h9 | h9
    · exact h2 y h9
    · rw [List.mem_singleton.mp h9]; exact hx
  · rcases at1 i y hy with ⟨hi, hy2⟩ | ⟨hi, rfl⟩ <;> rcases at1 j z hz with ⟨hj, hz2⟩ | ⟨hj, rfl⟩
    · exact h3 i j y z hy2 hz2 e
    · exact absurd e (tix_none hn hy2)
    · exact absurd e.symm (tix_none hn hz2)
    · omega
theorem ckT_add {S : am_S} {c : Nat} {τ : jTT} {x : jTy} (h : ckT S c τ) (hx : cT S (c + 5 + 4 * τ.length) x) : ckT S c (τ ++ [x]) := by
  intro i y hy
  rcases Nat.lt_or_ge i τ.length with hi | hi
  · rw [List.getElem?_append_left hi] at hy; exact h i y hy
  · rw [List.getElem?_append_right hi] at hy
    rcases Nat.eq_or_lt_of_le hi with e | e
    · subst e; simp at hy; subst hy; exact hx
    · rw [List.getElem?_eq_none (by simp; omega)] at hy; cases hy
def allS (S : am_S) (c : Nat) : Prop := ∀ t, t < 10 → cTs S (c + 5 + 4 * t)
def ckSh (S : am_S) (c : Nat) : Prop := (∃ st en tk fq nt nc, am_get S c = some (ckC c st en tk fq nt nc)) ∧ ckR S c ∧ allS S c
theorem ckR_fr {js : List Nat} {S T : am_S} {c : Nat} (h : ckR S c) (hf : fr js S T) (hj : c + 1 ∉ js) : ckR T c := by
  obtain ⟨F, h1, h2⟩ := h
  exact ⟨F, by rw [fr_get hf hj]; exact h1, h2⟩
theorem allS_fr {js : List Nat} {S T : am_S} {c : Nat} (h : allS S c) (hf : fr js S T) (hj : ∀ j, j ∈ js → j < c + 5 ∨ c + 45 ≤ j) : allS T c := by
  intro t ht
  exact cTs_fr (h t ht) hf ⟨fun h9 => by have := hj _ h9; omega, fun h9 => by have := hj _ h9; omega, fun h9 => by have := hj _ h9; omega, fun h9 => by have := hj _ h9; omega⟩
theorem ckT_fr {js : List Nat} {S T : am_S} {c : Nat} {τ : jTT} (h : ckT S c τ) (hl : τ.length ≤ 10) (hf : fr js S T) (hj : ∀ j, j ∈ js → j < c + 5 ∨ c + 5 + 4 * τ.length ≤ j) : ckT T c τ := by
  intro t x hx
  have ht := (List.getElem?_eq_some_iff.mp hx).1
  exact cT_fr (h t x hx) hf ⟨fun h9 => by have := hj _ h9; omega, fun h9 => by have := hj _ h9; omega, fun h9 => by have := hj _ h9; omega, fun h9 => by have := hj _ h9; omega⟩
theorem allS_one {S T : am_S} {c i : Nat} (h : allS S c) (hi : i < 10) (hf : fr [1, c + 5 + 4 * i, c + 5 + 4 * i + 1, c + 5 + 4 * i + 2, c + 5 + 4 * i + 3] S T) (hc : 3 ≤ c) (hT : cTs T (c + 5 + 4 * i)) : allS T c := by
  intro t ht
  by_cases e : t = i
  · subst e; exact hT
  · exact cTs_fr (h t ht) hf ⟨by simp only [List.mem_cons, List.not_mem_nil, or_false]; omega, by simp only [List.mem_cons, List.not_mem_nil, or_false]; omega, by simp only [List.mem_cons, List.not_mem_nil, or_false]; omega, by simp only [List.mem_cons, List.not_mem_nil, or_false]; omega⟩
section META
variable {X : Nat × (Nat → Int32)} {d : Nat} {Q : am_R → Prop} {b : Nat → Nat} {tot lim idp c s e : Nat} {tk fq : Int64} {nc : Int32}
set_option maxHeartbeats 2000000 in
theorem md_loop (hb : ∀ j, b j < 256) (hc3 : 3 ≤ c) (hc9 : c < 800000) {n pl0 cp : Nat} (hn : n ≤ 10) :
    ∀ (m i : Nat) (τ : jTT) (p : Nat) (S : am_S) (x6 x7 : Option Value), i + m = n → τ.length = i → wfT τ → sK S b tot p lim idp → am_get S c = some (ckC c (nI s) (nI e) tk fq (nI i) nc) → ckR S c → ckT S c τ → allS S c →
      (∀ τ' p' T x6 x7, rdTs b lim m τ p = .inr (τ', p') → fr (1 :: List.range' c 45) S T → sK T b tot p' lim idp → am_get T c = some (ckC c (nI s) (nI e) tk fq (nI n) nc) → ckR T c → ckT T c τ' → allS T c → wp X (d + 5) 7 174 [some (.ref c), some (.ref 1), some (.int (nI pl0)), some (.int (nI cp)), some (.int (nI n)), some (.int (nI n)), x6, x7] [] T Q) →
      (∀ k pl T, rdTs b lim m τ p = .inl (k, pl) → fr (1 :: List.range' c 45) S T → sX T tot k pl → ckSh T c → Q (.inr IAE, am_thrown T)) →
      wp X (d + 5) 7 103 [some (.ref c), some (.ref 1), some (.int (nI pl0)), some (.int (nI cp)), some (.int (nI n)), some (.int (nI i)), x6, x7] [] S Q := by
  intro m
  induction m with
  | zero =>
    intro i τ p S x6 x7 hi hτ hwf hk hcc hR hT hA hgo hthr
    iterate 2 refine wp_step rfl rfl ?_
    refine wp_icmp rfl (fun c0 => ?_) (fun c0 => ?_)
    · replace c0 := n_ge_t (a := i) (b := n) (by omega) (by omega) c0
      have e1 : i = n := by omega
      subst e1
      exact hgo τ p S _ _ rfl (fr_refl _ _) hk hcc hR hT hA
    · replace c0 := n_ge_f (a := i) (b := n) (by omega) (by omega) c0
      omega
  | succ m ih =>
    intro i τ p S x6 x7 hi hτ hwf hk hcc hR hT hA hgo hthr
    iterate 2 refine wp_step rfl rfl ?_
    refine wp_icmp rfl (fun c0 => ?_) (fun c0 => ?_)
    · replace c0 := n_ge_t (a := i) (b := n) (by omega) (by omega) c0
      omega
    · replace c0 := n_ge_f (a := i) (b := n) (by omega) (by omega) c0
      refine wp_step rfl rfl ?_
      refine wp_getg rfl hk.1 (by decide) rfl ?_
      iterate 2 refine wp_step rfl rfl ?_
      refine wp_c0 rfl rfl (by decide) rfl (recv_ok hk.1 rfl) rfl (q_count hk (fun id p1 T1 hcn hf1 hk1 => ?_) (fun T1 hcn hf1 hx1 => ?_))
      · have hid := cnt_lt hcn
        have hcc1 : am_get T1 c = some (ckC c (nI s) (nI e) tk fq (nI i) nc) := by rw [fr_get hf1 (by simp only [List.mem_cons, List.not_mem_nil, or_false, List.mem_range'_1]; omega)]; exact hcc
        have hR1 := ckR_fr hR hf1 (by simp only [List.mem_cons, List.not_mem_nil, or_false, List.mem_range'_1]; omega)
        have hT1 := ckT_fr hT hwf.1 hf1 (fun j hj => by simp only [List.mem_cons, List.not_mem_nil, or_false] at hj; omega)
        have hA1 := allS_fr hA hf1 (fun j hj => by simp only [List.mem_cons, List.not_mem_nil, or_false] at hj; omega)
        have hf1J := fr_mono (ks := (1 :: List.range' c 45)) hf1 (fun j hj => by simp only [List.mem_cons, List.not_mem_nil, or_false, List.mem_range'_1] at hj ⊢; omega)
        have bad : ∀ x7, (id < 16 ∨ tix τ id ≠ none) → wp X (d + 5) 7 138 [some (.ref c), some (.ref 1), some (.int (nI pl0)), some (.int (nI cp)), some (.int (nI n)), some (.int (nI i)), some (.int (nI p)), x7] [] T1 Q := by
          intro x7 hbad
          iterate 3 refine wp_step rfl rfl ?_
          refine wp_fl rfl rfl hk1 (fun T2 hf2 hx2 => hthr 4 p T2 ?_ (fr_trans hf1J (fr_mono hf2 (fun j hj => by simp only [List.mem_cons, List.not_mem_nil, or_false, List.mem_range'_1] at hj ⊢; omega))) hx2 ⟨⟨_, _, _, _, _, _, by rw [fr_get hf2 (by simp only [List.mem_cons, List.not_mem_nil, or_false, List.mem_range'_1]; omega)]; exact hcc1⟩, ckR_fr hR1 hf2 (by simp only [List.mem_cons, List.not_mem_nil, or_false, List.mem_range'_1]; omega), allS_fr hA1 hf2 (fun j hj => by simp only [List.mem_cons, List.not_mem_nil, or_false] at hj; omega)⟩)
          unfold rdTs; rw [hcn]; dsimp only; rw [if_pos hbad]
        have hO : ckO T1 c τ := ⟨⟨_, _, _, _, _, by rw [hτ]; exact hcc1⟩, hR1, hT1⟩
        iterate 3 refine wp_step rfl rfl ?_
        refine wp_icmp rfl (fun c1 => ?_) (fun c1 => ?_)
        · replace c1 := n_lt_t (a := id) (b := 16) (by omega) (by omega) c1
          exact bad _ (Or.inl c1)
        · replace c1 := n_lt_f (a := id) (b := 16) (by omega) (by omega) c1
          iterate 2 refine wp_step rfl rfl ?_
          refine wp_c0 rfl rfl (by decide) rfl (recv_ok hcc1 rfl) rfl (q_tw hwf hO (by omega) (by omega) ?_)
          cases hx : tix τ id with
          | some u =>
            rw [show oI (some u) = nI u from rfl]
            obtain ⟨z, hz, hz1, hul⟩ := tix_some hx
            have hl9 := hwf.1
            refine wp_if_f rfl (show am_c1 .lt (nI u) = false from decide_eq_false (nI_pos (by omega))) ?_
            exact bad _ (Or.inr (by rw [hx]; simp))
          | none =>
            refine wp_if_t rfl (by decide) ?_
            have hn2 : ¬ (id < 16 ∨ tix τ id ≠ none) := by rw [hx]; simp; omega
            have hR1c := hR1
            obtain ⟨F, hF1, hF⟩ := hR1c
            refine wp_step rfl rfl ?_
            refine wp_getg rfl hcc1 (by decide) rfl ?_
            refine wp_step rfl rfl ?_
            refine wp_aald rfl (by omega) hF1 (by decide) (am_in_nI (by omega) (by decide)) ?_
            rw [nI_clamp (by omega)]
            rw [hF i (by omega)]
            obtain ⟨z1, z2, z3, z4, z5, z6, z7, hz0, hzz⟩ : cTs T1 (c + 5 + 4 * i) := hA1 i (by omega)
            iterate 2 refine wp_step rfl rfl ?_
            refine wp_c0 rfl rfl (by decide) rfl (recv_ok hz0 rfl) rfl (q_typeRead hb hk1 (hA1 i (by omega)) (by omega) (by omega) (fun y p2 T2 e2 hf2 hk2 hy => ?_) (fun k pl T2 e2 hf2 hx2 hs2 => ?_))
            · have hcc2 : am_get T2 c = some (ckC c (nI s) (nI e) tk fq (nI i) nc) := by rw [fr_get hf2 (by simp only [List.mem_cons, List.not_mem_nil, or_false, List.mem_range'_1]; omega)]; exact hcc1
              obtain ⟨hyo, hy1, hp2, hp2l⟩ := rdT1_ok e2 c1 hid.1
              have hR2 := ckR_fr hR1 hf2 (by simp only [List.mem_cons, List.not_mem_nil, or_false, List.mem_range'_1]; omega)
              have hT2 := ckT_fr hT1 hwf.1 hf2 (fun j hj => by simp only [List.mem_cons, List.not_mem_nil, or_false] at hj; omega)
              have hT3 := ckT_add hT2 (x := y) (by rw [hτ]; exact hy)
              have hA2 := allS_one hA1 (by omega) hf2 hc3 (cT_s hy)
              iterate 2 refine wp_step rfl rfl ?_
              refine wp_getg rfl hcc2 (by decide) rfl ?_
              iterate 2 refine wp_step rfl rfl ?_
              rw [show nI i + Int32.ofInt 1 = nI (i + 1) from nI_add i 1]
              refine wp_putg rfl hcc2 (by decide) rfl rfl ?_
              rw [ckG_4]
              iterate 2 refine wp_step rfl rfl ?_
              rw [show nI i + Int32.ofInt 1 = nI (i + 1) from nI_add i 1]
              have hf3 : fr [c] T2 (am_upd T2 c (ckC c (nI s) (nI e) tk fq (nI (i + 1)) nc)) := fr_up (by simp)
              refine ih (i + 1) (τ ++ [y]) p2 _ _ _ (by omega) (by simp; omega) (wf_add hwf (by omega) hyo (by rw [hy1]; exact hx)) (sK_fr hk2 hf3 (by simp only [List.mem_cons, List.not_mem_nil, or_false, List.mem_range'_1]; omega) (by simp only [List.mem_cons, List.not_mem_nil, or_false, List.mem_range'_1]; omega)) (am_get_self hcc2) (ckR_fr hR2 hf3 (by simp only [List.mem_cons, List.not_mem_nil, or_false, List.mem_range'_1]; omega)) (ckT_fr hT3 (by simp; omega) hf3 (fun j hj => by simp only [List.mem_cons, List.not_mem_nil, or_false] at hj; omega)) (allS_fr hA2 hf3 (fun j hj => by simp only [List.mem_cons, List.not_mem_nil, or_false] at hj; omega)) (fun τ' p' T x6 x7 e3 hf4 => hgo τ' p' T x6 x7 (by unfold rdTs; rw [hcn]; dsimp only; rw [if_neg hn2, e2]; exact e3) (fr_trans hf1J (fr_trans (fr_mono hf2 (fun j hj => by simp only [List.mem_cons, List.not_mem_nil, or_false, List.mem_range'_1] at hj ⊢; omega)) (fr_trans (fr_mono hf3 (fun j hj => by simp only [List.mem_cons, List.not_mem_nil, or_false, List.mem_range'_1] at hj ⊢; omega)) hf4)))) (fun k pl T e3 hf4 => hthr k pl T (by unfold rdTs; rw [hcn]; dsimp only; rw [if_neg hn2, e2]; exact e3) (fr_trans hf1J (fr_trans (fr_mono hf2 (fun j hj => by simp only [List.mem_cons, List.not_mem_nil, or_false, List.mem_range'_1] at hj ⊢; omega)) (fr_trans (fr_mono hf3 (fun j hj => by simp only [List.mem_cons, List.not_mem_nil, or_false, List.mem_range'_1] at hj ⊢; omega)) hf4))))
            · exact hthr k pl T2 (by unfold rdTs; rw [hcn]; dsimp only; rw [if_neg hn2, e2]) (fr_trans hf1J (fr_mono hf2 (fun j hj => by simp only [List.mem_cons, List.not_mem_nil, or_false, List.mem_range'_1] at hj ⊢; omega))) hx2 ⟨⟨_, _, _, _, _, _, by rw [fr_get hf2 (by simp only [List.mem_cons, List.not_mem_nil, or_false, List.mem_range'_1]; omega)]; exact hcc1⟩, ckR_fr hR1 hf2 (by simp only [List.mem_cons, List.not_mem_nil, or_false, List.mem_range'_1]; omega), allS_one hA1 (by omega) hf2 hc3 hs2⟩
      · exact hthr _ _ _ (by unfold rdTs; rw [hcn]) (fr_mono hf1 (fun j hj => by simp only [List.mem_cons, List.not_mem_nil, or_false, List.mem_range'_1] at hj ⊢; omega)) hx1 ⟨⟨_, _, _, _, _, _, by rw [fr_get hf1 (by simp only [List.mem_cons, List.not_mem_nil, or_false, List.mem_range'_1]; omega)]; exact hcc⟩, ckR_fr hR hf1 (by simp only [List.mem_cons, List.not_mem_nil, or_false, List.mem_range'_1]; omega), allS_fr hA hf1 (fun j hj => by simp only [List.mem_cons, List.not_mem_nil, or_false] at hj; omega)⟩
end META
end
section
/-! Chunk.readMetadata -/
section META2
variable {X : Nat × (Nat → Int32)} {d : Nat} {Q : am_R → Prop} {b : Nat → Nat} {tot pos lim idp c s e : Nat} {tk fq : Int64} {nt nc : Int32} {S : am_S}
theorem wf_nil : wfT [] := ⟨by decide, fun x hx => (by cases hx), fun i j x y hx => (by simp at hx)⟩
theorem rdTs_ok {b : Nat → Nat} {lim : Nat} : ∀ {n p p' : Nat} {τ τ' : jTT}, rdTs b lim n τ p = .inr (τ', p') → wfT τ → τ.length + n ≤ 10 → τ'.length = τ.length + n ∧ wfT τ' ∧ p ≤ p' := by
  intro n
  induction n with
  | zero => intro p p' τ τ' h hw _; cases h; exact ⟨rfl, hw, Nat.le_refl _⟩
  | succ n ih =>
    intro p p' τ τ' h hw hl
    unfold rdTs at h
    split at h
    · cases h
    · rename_i id p1 hc
      have hcl := cnt_lt hc
      split at h
      · cases h
      · rename_i hn
        split at h
        · cases h
        · rename_i x p2 e2
          have h16 : 16 ≤ id := by omega
          obtain ⟨h1, h2, h3, h4⟩ := rdT1_ok e2 h16 hcl.1
          have hx : tix τ x.1 = none := by
            rw [h2]
            cases hx : tix τ id with
            | none => rfl
            | some u => exact absurd (Or.inr (by rw [hx]; simp)) hn
          obtain ⟨h5, h6, h7⟩ := ih h (wf_add hw (by omega) h1 hx) (by simp; omega)
          exact ⟨by rw [h5]; simp; omega, h6, by omega⟩
set_option maxHeartbeats 2000000 in
theorem q_readMetadata (hb : ∀ j, b j < 256) (h : sK S b tot pos lim idp) (hc3 : 3 ≤ c) (hc9 : c < 800000) (hcc : am_get S c = some (ckC c (nI s) (nI e) tk fq nt nc)) (hR : ckR S c) (hA : allS S c) (hs : s + 20 ≤ e) (he : e ≤ tot)
    (hret : ∀ τ T, rdM b s e = .inr τ → wfT τ → fht τ → nocyc τ → fr (1 :: List.range' c 45) S T → (∃ pos lim idp, sK T b tot pos lim idp) → am_get T c = some (ckC c (nI s) (nI e) tk fq (nI τ.length) nc) → ckR T c → ckT T c τ → allS T c → Q (.inl none, T))
    (hthr : ∀ k pl T, (rdM b s e = .inl (k, pl) ∨ ∃ τ, rdM b s e = .inr τ ∧ wfT τ ∧ (¬ fht τ ∨ ring τ) ∧ k = 4 ∧ pl = s + w2 b (s + 8)) → fr (1 :: List.range' c 45) S T → sX T tot k pl → ckSh T c → Q (.inr IAE, am_thrown T)) : ev X (d + 6) 7 [.ref c, .ref 1] S Q := by
  refine ev_wp (L0 := [some (.ref c), some (.ref 1), none, none, none, none, none, none]) (Nat.le_of_ble_eq_true rfl) rfl ?_
  have hk0 := h.2.2
  have hw2 : w2 b (s + 8) < 65536 := fxN_lt hb (p := s + 8) 2
  refine wp_step rfl rfl ?_
  refine wp_getg rfl hcc (by decide) rfl ?_
  iterate 2 refine wp_step rfl rfl ?_
  refine wp_getg rfl hcc (by decide) rfl ?_
  iterate 3 refine wp_step rfl rfl ?_
  rw [show nI s + (Int8.ofInt 8).toInt32 = nI (s + 8) from nI_add s 8]
  refine wp_c0 rfl rfl (by decide) rfl (recv_ok h.1 rfl) rfl (q_fixedAt (n := 2) h (by omega) ?_)
  rw [show fx (Bn b) (s + 8) 2 = lN (w2 b (s + 8)) from fx_N hb 2 (by decide)]
  refine wp_step rfl rfl ?_
  rw [lN_i]
  refine wp_step rfl rfl ?_
  rw [nI_add]
  have bad : (w2 b (s + 8) < 20 ∨ e ≤ s + w2 b (s + 8)) → wp X (d + 5) 7 38 [some (.ref c), some (.ref 1), some (.int (nI (s + w2 b (s + 8)))), none, none, none, none, none] [] S Q := by
    intro hbad
    iterate 3 refine wp_step rfl rfl ?_
    refine wp_getg rfl hcc (by decide) rfl ?_
    iterate 2 refine wp_step rfl rfl ?_
    rw [show nI s + (Int8.ofInt 8).toInt32 = nI (s + 8) from nI_add s 8]
    refine wp_fl rfl rfl h (fun T hf hx => hthr 3 (s + 8) T (Or.inl ?_) (fr_mono hf (fun j hj => by simp only [List.mem_cons, List.not_mem_nil, or_false, List.mem_range'_1] at hj ⊢; omega)) hx ⟨⟨_, _, _, _, _, _, by rw [fr_get hf (by simp only [List.mem_cons, List.not_mem_nil, or_false, List.mem_range'_1]; omega)]; exact hcc⟩, ckR_fr hR hf (by simp only [List.mem_cons, List.not_mem_nil, or_false, List.mem_range'_1]; omega), allS_fr hA hf (fun j hj => by simp only [List.mem_cons, List.not_mem_nil, or_false] at hj; omega)⟩)
    unfold rdM; rw [if_pos hbad]
  iterate 3 refine wp_step rfl rfl ?_
  refine wp_getg rfl hcc (by decide) rfl ?_
  iterate 2 refine wp_step rfl rfl ?_
  rw [show nI s + (Int8.ofInt 20).toInt32 = nI (s + 20) from nI_add s 20]
  refine wp_icmp rfl (fun c1 => ?_) (fun c1 => ?_)
  · replace c1 := n_lt_t (a := s + w2 b (s + 8)) (b := s + 20) (by omega) (by omega) c1
    exact bad (Or.inl (by omega))
  · replace c1 := n_lt_f (a := s + w2 b (s + 8)) (b := s + 20) (by omega) (by omega) c1
    iterate 2 refine wp_step rfl rfl ?_
    refine wp_getg rfl hcc (by decide) rfl ?_
    refine wp_icmp rfl (fun c2 => ?_) (fun c2 => ?_)
    · replace c2 := n_lt_t (a := s + w2 b (s + 8)) (b := e) (by omega) (by omega) c2
      have hn1 : ¬ (w2 b (s + 8) < 20 ∨ e ≤ s + w2 b (s + 8)) := by omega
      iterate 3 refine wp_step rfl rfl ?_
      refine wp_getg rfl hcc (by decide) rfl ?_
      refine wp_c0 rfl rfl (by decide) rfl (recv_ok h.1 rfl) rfl (q_head (s := s + w2 b (s + 8)) h (by omega) he (fun len id p1 p2 T1 hh hf1 hk1 => ?_) (fun k pl T1 hh hf1 hx1 => ?_))
      · have hho := hd_ok hh
        have hcc1 : am_get T1 c = some (ckC c (nI s) (nI e) tk fq nt nc) := by rw [fr_get hf1 (by simp only [List.mem_cons, List.not_mem_nil, or_false, List.mem_range'_1]; omega)]; exact hcc
        have hR1 := ckR_fr hR hf1 (by simp only [List.mem_cons, List.not_mem_nil, or_false, List.mem_range'_1]; omega)
        have hA1 := allS_fr hA hf1 (fun j hj => by simp only [List.mem_cons, List.not_mem_nil, or_false] at hj; omega)
        have hf1J := fr_mono (ks := (1 :: List.range' c 45)) hf1 (fun j hj => by simp only [List.mem_cons, List.not_mem_nil, or_false, List.mem_range'_1] at hj ⊢; omega)
        refine wp_if rfl (fun c3 => ?_) (fun c3 => ?_)
        · replace c3 := z_eq_t (a := id) (by omega) c3
          refine wp_step rfl rfl ?_
          refine wp_getg rfl hk1.1 (by decide) rfl ?_
          iterate 2 refine wp_step rfl rfl ?_
          refine wp_c0 rfl rfl (by decide) rfl (recv_ok hk1.1 rfl) rfl (q_count hk1 (fun n p3 T2 hcn hf2 hk2 => ?_) (fun T2 hcn hf2 hx2 => ?_))
          · have hcl := cnt_lt hcn
            have hcc2 : am_get T2 c = some (ckC c (nI s) (nI e) tk fq nt nc) := by rw [fr_get hf2 (by simp only [List.mem_cons, List.not_mem_nil, or_false, List.mem_range'_1]; omega)]; exact hcc1
            have hR2 := ckR_fr hR1 hf2 (by simp only [List.mem_cons, List.not_mem_nil, or_false, List.mem_range'_1]; omega)
            have hA2 := allS_fr hA1 hf2 (fun j hj => by simp only [List.mem_cons, List.not_mem_nil, or_false] at hj; omega)
            have hf2J := fr_trans hf1J (fr_mono (ks := (1 :: List.range' c 45)) hf2 (fun j hj => by simp only [List.mem_cons, List.not_mem_nil, or_false, List.mem_range'_1] at hj ⊢; omega))
            iterate 3 refine wp_step rfl rfl ?_
            refine wp_icmp rfl (fun c4 => ?_) (fun c4 => ?_)
            · replace c4 := n_le_t (a := n) (b := 10) (by omega) (by omega) c4
              iterate 2 refine wp_step rfl rfl ?_
              refine wp_putg rfl hcc2 (by decide) rfl rfl ?_
              rw [ckG_4]
              iterate 2 refine wp_step rfl rfl ?_
              have hf3 : fr [c] T2 (am_upd T2 c (ckC c (nI s) (nI e) tk fq (nI 0) nc)) := fr_up (by simp)
              have hf3J := fr_trans hf2J (fr_mono (ks := (1 :: List.range' c 45)) hf3 (fun j hj => by simp only [List.mem_cons, List.not_mem_nil, or_false, List.mem_range'_1] at hj ⊢; omega))
              refine md_loop hb hc3 hc9 (tk := tk) (fq := fq) (nc := nc) (s := s) (e := e) c4 n 0 [] p3 _ _ _ (by omega) rfl wf_nil (sK_fr hk2 hf3 (by simp only [List.mem_cons, List.not_mem_nil, or_false, List.mem_range'_1]; omega) (by simp only [List.mem_cons, List.not_mem_nil, or_false, List.mem_range'_1]; omega)) (am_get_self hcc2) (ckR_fr hR2 hf3 (by simp only [List.mem_cons, List.not_mem_nil, or_false, List.mem_range'_1]; omega)) (fun t x hx => by simp at hx) (allS_fr hA2 hf3 (fun j hj => by simp only [List.mem_cons, List.not_mem_nil, or_false] at hj; omega)) (fun τ p4 T4 x6 x7 e4 hf4 hk4 hcc4 hR4 hT4 hA4 => ?_) (fun k pl T4 e4 hf4 hx4 hs4 => ?_)
              · obtain ⟨hτn, hwf, hp4⟩ := rdTs_ok e4 wf_nil (by simp; omega)
                simp at hτn
                have hf4J := fr_trans hf3J hf4
                refine wp_step rfl rfl ?_
                refine wp_c0 rfl rfl (by decide) rfl (recv_ok hk4.1 rfl) rfl (q_eventEnd hk4 (fun hle => ?_) (fun T5 hlt hf5 hx5 => ?_))
                · have eM : rdM b s e = .inr τ := by unfold rdM; rw [if_neg hn1, hh]; dsimp only; rw [if_neg (by omega), hcn]; dsimp only; rw [if_neg (by omega), e4]; dsimp only; rw [if_neg (by omega)]
                  have hO : ckO T4 c τ := ⟨⟨_, _, _, _, _, by rw [hτn]; exact hcc4⟩, hR4, hT4⟩
                  have bad2 : (¬ fht τ ∨ ring τ) → wp X (d + 5) 7 192 [some (.ref c), some (.ref 1), some (.int (nI (s + w2 b (s + 8)))), some (.int (nI p2)), some (.int (nI n)), some (.int (nI n)), x6, x7] [] T4 Q := by
                    intro hbad
                    iterate 3 refine wp_step rfl rfl ?_
                    exact wp_fl rfl rfl hk4 (fun T hf hx => hthr 4 (s + w2 b (s + 8)) T (Or.inr ⟨τ, eM, hwf, hbad, rfl, rfl⟩) (fr_trans hf4J (fr_mono hf (fun j hj => by simp only [List.mem_cons, List.not_mem_nil, or_false, List.mem_range'_1] at hj ⊢; omega))) hx ⟨⟨_, _, _, _, _, _, by rw [fr_get hf (by simp only [List.mem_cons, List.not_mem_nil, or_false, List.mem_range'_1]; omega)]; exact hcc4⟩, ckR_fr hR4 hf (by simp only [List.mem_cons, List.not_mem_nil, or_false, List.mem_range'_1]; omega), allS_fr hA4 hf (fun j hj => by simp only [List.mem_cons, List.not_mem_nil, or_false] at hj; omega)⟩)
                  refine wp_step rfl rfl ?_
                  refine wp_c0 rfl rfl (by decide) rfl (recv_ok hcc4 rfl) rfl (q_fieldsHaveTypes hwf hO (by omega) (fun hg => ?_) (fun hg => ?_))
                  · refine wp_if_f rfl (by decide) ?_
                    refine wp_step rfl rfl ?_
                    refine wp_c0 rfl rfl (by decide) rfl (recv_ok hcc4 rfl) rfl (q_someHoldItself hwf hO (by omega) (fun hr => ?_) (fun hr => ?_))
                    · refine wp_if_f rfl (by decide) ?_
                      exact bad2 (Or.inr hr)
                    · refine wp_if_t rfl (by decide) ?_
                      refine wp_vret rfl rfl (hret τ T4 eM hwf hg hr hf4J ⟨_, _, _, hk4⟩ (by rw [hτn]; exact hcc4) hR4 hT4 hA4)
                  · refine wp_if_t rfl (by decide) ?_
                    exact bad2 (Or.inl hg)
                · exact hthr 5 p4 T5 (Or.inl (by unfold rdM; rw [if_neg hn1, hh]; dsimp only; rw [if_neg (by omega), hcn]; dsimp only; rw [if_neg (by omega), e4]; dsimp only; rw [if_pos hlt])) (fr_trans hf4J (fr_mono hf5 (fun j hj => by simp only [List.mem_cons, List.not_mem_nil, or_false, List.mem_range'_1] at hj ⊢; omega))) hx5 ⟨⟨_, _, _, _, _, _, by rw [fr_get hf5 (by simp only [List.mem_cons, List.not_mem_nil, or_false, List.mem_range'_1]; omega)]; exact hcc4⟩, ckR_fr hR4 hf5 (by simp only [List.mem_cons, List.not_mem_nil, or_false, List.mem_range'_1]; omega), allS_fr hA4 hf5 (fun j hj => by simp only [List.mem_cons, List.not_mem_nil, or_false] at hj; omega)⟩
              · exact hthr k pl T4 (Or.inl (by unfold rdM; rw [if_neg hn1, hh]; dsimp only; rw [if_neg (by omega), hcn]; dsimp only; rw [if_neg (by omega), e4])) (fr_trans hf3J hf4) hx4 hs4
            · replace c4 := n_le_f (a := n) (b := 10) (by omega) (by omega) c4
              iterate 3 refine wp_step rfl rfl ?_
              refine wp_fl rfl rfl hk2 (fun T hf hx => hthr 4 p2 T (Or.inl ?_) (fr_trans hf2J (fr_mono hf (fun j hj => by simp only [List.mem_cons, List.not_mem_nil, or_false, List.mem_range'_1] at hj ⊢; omega))) hx ⟨⟨_, _, _, _, _, _, by rw [fr_get hf (by simp only [List.mem_cons, List.not_mem_nil, or_false, List.mem_range'_1]; omega)]; exact hcc2⟩, ckR_fr hR2 hf (by simp only [List.mem_cons, List.not_mem_nil, or_false, List.mem_range'_1]; omega), allS_fr hA2 hf (fun j hj => by simp only [List.mem_cons, List.not_mem_nil, or_false] at hj; omega)⟩)
              unfold rdM; rw [if_neg hn1, hh]; dsimp only; rw [if_neg (by omega), hcn]; dsimp only; rw [if_pos c4]
          · exact hthr _ _ T2 (Or.inl (by unfold rdM; rw [if_neg hn1, hh]; dsimp only; rw [if_neg (by omega), hcn])) (fr_trans hf1J (fr_mono hf2 (fun j hj => by simp only [List.mem_cons, List.not_mem_nil, or_false, List.mem_range'_1] at hj ⊢; omega))) hx2 ⟨⟨_, _, _, _, _, _, by rw [fr_get hf2 (by simp only [List.mem_cons, List.not_mem_nil, or_false, List.mem_range'_1]; omega)]; exact hcc1⟩, ckR_fr hR1 hf2 (by simp only [List.mem_cons, List.not_mem_nil, or_false, List.mem_range'_1]; omega), allS_fr hA1 hf2 (fun j hj => by simp only [List.mem_cons, List.not_mem_nil, or_false] at hj; omega)⟩
        · replace c3 := z_eq_f (a := id) (by omega) c3
          iterate 3 refine wp_step rfl rfl ?_
          refine wp_getg rfl hk1.1 (by decide) rfl ?_
          refine wp_fl rfl rfl hk1 (fun T hf hx => hthr 3 p1 T (Or.inl ?_) (fr_trans hf1J (fr_mono hf (fun j hj => by simp only [List.mem_cons, List.not_mem_nil, or_false, List.mem_range'_1] at hj ⊢; omega))) hx ⟨⟨_, _, _, _, _, _, by rw [fr_get hf (by simp only [List.mem_cons, List.not_mem_nil, or_false, List.mem_range'_1]; omega)]; exact hcc1⟩, ckR_fr hR1 hf (by simp only [List.mem_cons, List.not_mem_nil, or_false, List.mem_range'_1]; omega), allS_fr hA1 hf (fun j hj => by simp only [List.mem_cons, List.not_mem_nil, or_false] at hj; omega)⟩)
          unfold rdM; rw [if_neg hn1, hh]; dsimp only; rw [if_pos c3]
      · exact hthr k pl T1 (Or.inl (by unfold rdM; rw [if_neg hn1, hh])) (fr_mono hf1 (fun j hj => by simp only [List.mem_cons, List.not_mem_nil, or_false, List.mem_range'_1] at hj ⊢; omega)) hx1 ⟨⟨_, _, _, _, _, _, by rw [fr_get hf1 (by simp only [List.mem_cons, List.not_mem_nil, or_false, List.mem_range'_1]; omega)]; exact hcc⟩, ckR_fr hR hf1 (by simp only [List.mem_cons, List.not_mem_nil, or_false, List.mem_range'_1]; omega), allS_fr hA hf1 (fun j hj => by simp only [List.mem_cons, List.not_mem_nil, or_false] at hj; omega)⟩
    · replace c2 := n_lt_f (a := s + w2 b (s + 8)) (b := e) (by omega) (by omega) c2
      exact bad (Or.inr c2)
end META2
end
