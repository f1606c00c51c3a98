section
-- ===== PART A: goes FIRST, ahead of the names: the tables' words, and 'selects' of the private methods out of them =====
/-- a private method of a class that the tables say can be made, by its rows of tables_1 -/
def lw_okq (q : MethodName × Nat) : Prop := (q.1.cls ≠ "java/lang/invoke/MethodHandle" ∧ q.1.cls ≠ "java/lang/invoke/VarHandle") ∧ Cond.instantiable q.1.cls q.2 ∈ tables_1 ∧ Cond.privateMethod q.1 ∈ tables_1 ∧ Cond.instanceMethod q.1 ∈ tables_1
theorem lw_p0 : lw_okq (⟨"FlightReader$Recording", "constantFor", "(LFlightReader$Chunk;I)I"⟩, 7) := ⟨⟨by decide +kernel, by decide +kernel⟩, List.mem_of_getElem? (i := 107) (by decide +kernel), List.mem_of_getElem? (i := 433) (by decide +kernel), List.mem_of_getElem? (i := 434) (by decide +kernel)⟩
theorem lw_p1 : lw_okq (⟨"FlightReader$Recording", "isKey", "(I)Z"⟩, 7) := ⟨⟨by decide +kernel, by decide +kernel⟩, List.mem_of_getElem? (i := 107) (by decide +kernel), List.mem_of_getElem? (i := 437) (by decide +kernel), List.mem_of_getElem? (i := 438) (by decide +kernel)⟩
theorem lw_p2 : lw_okq (⟨"java/lang/Throwable", "fillInStackTrace", "(I)Ljava/lang/Throwable;"⟩, 6) := ⟨⟨by decide +kernel, by decide +kernel⟩, List.mem_of_getElem? (i := 529) (by decide +kernel), List.mem_of_getElem? (i := 527) (by decide +kernel), List.mem_of_getElem? (i := 528) (by decide +kernel)⟩
theorem lw_p3 : lw_okq (⟨"FlightReader$Type", "readField", "(LFlightReader$Source;)V"⟩, 7) := ⟨⟨by decide +kernel, by decide +kernel⟩, List.mem_of_getElem? (i := 158) (by decide +kernel), List.mem_of_getElem? (i := 607) (by decide +kernel), List.mem_of_getElem? (i := 608) (by decide +kernel)⟩
theorem lw_p4 : lw_okq (⟨"FlightReader$Chunk", "fieldsHaveTypes", "()Z"⟩, 10) := ⟨⟨by decide +kernel, by decide +kernel⟩, List.mem_of_getElem? (i := 151) (by decide +kernel), List.mem_of_getElem? (i := 616) (by decide +kernel), List.mem_of_getElem? (i := 617) (by decide +kernel)⟩
theorem lw_p5 : lw_okq (⟨"FlightReader$Chunk", "someHoldItself", "()Z"⟩, 10) := ⟨⟨by decide +kernel, by decide +kernel⟩, List.mem_of_getElem? (i := 151) (by decide +kernel), List.mem_of_getElem? (i := 628) (by decide +kernel), List.mem_of_getElem? (i := 629) (by decide +kernel)⟩
theorem lw_p6 : lw_okq (⟨"FlightReader$Chunk", "holdsOnly", "(LFlightReader$Type;I)Z"⟩, 10) := ⟨⟨by decide +kernel, by decide +kernel⟩, List.mem_of_getElem? (i := 151) (by decide +kernel), List.mem_of_getElem? (i := 632) (by decide +kernel), List.mem_of_getElem? (i := 633) (by decide +kernel)⟩
theorem lw_p7 : lw_okq (⟨"FlightReader$Values", "read", "(LFlightReader$Source;LFlightReader$Chunk;III)I"⟩, 7) := ⟨⟨by decide +kernel, by decide +kernel⟩, List.mem_of_getElem? (i := 115) (by decide +kernel), List.mem_of_getElem? (i := 650) (by decide +kernel), List.mem_of_getElem? (i := 651) (by decide +kernel)⟩
theorem lw_p8 : lw_okq (⟨"FlightReader$Values", "put", "(IIJI)V"⟩, 7) := ⟨⟨by decide +kernel, by decide +kernel⟩, List.mem_of_getElem? (i := 115) (by decide +kernel), List.mem_of_getElem? (i := 656) (by decide +kernel), List.mem_of_getElem? (i := 657) (by decide +kernel)⟩
theorem lw_p9 : lw_okq (⟨"FlightReader$Values", "readText", "(LFlightReader$Source;I)V"⟩, 7) := ⟨⟨by decide +kernel, by decide +kernel⟩, List.mem_of_getElem? (i := 115) (by decide +kernel), List.mem_of_getElem? (i := 662) (by decide +kernel), List.mem_of_getElem? (i := 663) (by decide +kernel)⟩
theorem lw_p10 : lw_okq (⟨"FlightReader$Values", "addLetter", "(C)V"⟩, 7) := ⟨⟨by decide +kernel, by decide +kernel⟩, List.mem_of_getElem? (i := 115) (by decide +kernel), List.mem_of_getElem? (i := 673) (by decide +kernel), List.mem_of_getElem? (i := 674) (by decide +kernel)⟩
theorem lw_p11 : lw_okq (⟨"FlightReader$Values", "readPlain", "(LFlightReader$Source;I)J"⟩, 7) := ⟨⟨by decide +kernel, by decide +kernel⟩, List.mem_of_getElem? (i := 115) (by decide +kernel), List.mem_of_getElem? (i := 678) (by decide +kernel), List.mem_of_getElem? (i := 679) (by decide +kernel)⟩
theorem lw_p12 : lw_okq (⟨"FlightReader$Recording", "readEvent", "(LFlightReader$Source;LFlightReader$Chunk;II)V"⟩, 7) := ⟨⟨by decide +kernel, by decide +kernel⟩, List.mem_of_getElem? (i := 107) (by decide +kernel), List.mem_of_getElem? (i := 685) (by decide +kernel), List.mem_of_getElem? (i := 686) (by decide +kernel)⟩
theorem lw_p13 : lw_okq (⟨"FlightReader$Checkpoints", "startingAt", "(I)I"⟩, 9) := ⟨⟨by decide +kernel, by decide +kernel⟩, List.mem_of_getElem? (i := 71) (by decide +kernel), List.mem_of_getElem? (i := 700) (by decide +kernel), List.mem_of_getElem? (i := 701) (by decide +kernel)⟩
theorem lw_p14 : lw_okq (⟨"FlightReader", "chooseAll", "()V"⟩, 10) := ⟨⟨by decide +kernel, by decide +kernel⟩, List.mem_of_getElem? (i := 20) (by decide +kernel), List.mem_of_getElem? (i := 708) (by decide +kernel), List.mem_of_getElem? (i := 709) (by decide +kernel)⟩
theorem lw_p15 : lw_okq (⟨"FlightReader", "requireEvent", "(I)V"⟩, 10) := ⟨⟨by decide +kernel, by decide +kernel⟩, List.mem_of_getElem? (i := 20) (by decide +kernel), List.mem_of_getElem? (i := 720) (by decide +kernel), List.mem_of_getElem? (i := 721) (by decide +kernel)⟩
def lw_privs_1 : List (MethodName × Nat) := [(⟨"FlightReader$Recording", "constantFor", "(LFlightReader$Chunk;I)I"⟩, 7), (⟨"FlightReader$Recording", "isKey", "(I)Z"⟩, 7), (⟨"java/lang/Throwable", "fillInStackTrace", "(I)Ljava/lang/Throwable;"⟩, 6), (⟨"FlightReader$Type", "readField", "(LFlightReader$Source;)V"⟩, 7), (⟨"FlightReader$Chunk", "fieldsHaveTypes", "()Z"⟩, 10), (⟨"FlightReader$Chunk", "someHoldItself", "()Z"⟩, 10), (⟨"FlightReader$Chunk", "holdsOnly", "(LFlightReader$Type;I)Z"⟩, 10), (⟨"FlightReader$Values", "read", "(LFlightReader$Source;LFlightReader$Chunk;III)I"⟩, 7), (⟨"FlightReader$Values", "put", "(IIJI)V"⟩, 7), (⟨"FlightReader$Values", "readText", "(LFlightReader$Source;I)V"⟩, 7), (⟨"FlightReader$Values", "addLetter", "(C)V"⟩, 7), (⟨"FlightReader$Values", "readPlain", "(LFlightReader$Source;I)J"⟩, 7), (⟨"FlightReader$Recording", "readEvent", "(LFlightReader$Source;LFlightReader$Chunk;II)V"⟩, 7), (⟨"FlightReader$Checkpoints", "startingAt", "(I)I"⟩, 9), (⟨"FlightReader", "chooseAll", "()V"⟩, 10), (⟨"FlightReader", "requireEvent", "(I)V"⟩, 10)]
theorem lw_r1 : ∀ q ∈ lw_privs_1, lw_okq q := List.forall_mem_cons.mpr ⟨lw_p0, List.forall_mem_cons.mpr ⟨lw_p1, List.forall_mem_cons.mpr ⟨lw_p2, List.forall_mem_cons.mpr ⟨lw_p3, List.forall_mem_cons.mpr ⟨lw_p4, List.forall_mem_cons.mpr ⟨lw_p5, List.forall_mem_cons.mpr ⟨lw_p6, List.forall_mem_cons.mpr ⟨lw_p7, List.forall_mem_cons.mpr ⟨lw_p8, List.forall_mem_cons.mpr ⟨lw_p9, List.forall_mem_cons.mpr ⟨lw_p10, List.forall_mem_cons.mpr ⟨lw_p11, List.forall_mem_cons.mpr ⟨lw_p12, List.forall_mem_cons.mpr ⟨lw_p13, List.forall_mem_cons.mpr ⟨lw_p14, List.forall_mem_cons.mpr ⟨lw_p15, fun _ h => absurd h List.not_mem_nil⟩⟩⟩⟩⟩⟩⟩⟩⟩⟩⟩⟩⟩⟩⟩⟩
theorem lw_p16 : lw_okq (⟨"FlightReader$Filter", "stateAfter", "(C)I"⟩, 12) := ⟨⟨by decide +kernel, by decide +kernel⟩, List.mem_of_getElem? (i := 262) (by decide +kernel), List.mem_of_getElem? (i := 800) (by decide +kernel), List.mem_of_getElem? (i := 801) (by decide +kernel)⟩
theorem lw_p17 : lw_okq (⟨"FlightReader$Filter", "takeName", "(C)I"⟩, 12) := ⟨⟨by decide +kernel, by decide +kernel⟩, List.mem_of_getElem? (i := 262) (by decide +kernel), List.mem_of_getElem? (i := 804) (by decide +kernel), List.mem_of_getElem? (i := 805) (by decide +kernel)⟩
theorem lw_p18 : lw_okq (⟨"FlightReader$Filter", "takeStep", "(C)I"⟩, 12) := ⟨⟨by decide +kernel, by decide +kernel⟩, List.mem_of_getElem? (i := 262) (by decide +kernel), List.mem_of_getElem? (i := 808) (by decide +kernel), List.mem_of_getElem? (i := 809) (by decide +kernel)⟩
theorem lw_p19 : lw_okq (⟨"FlightReader$Filter", "takeDot", "()I"⟩, 12) := ⟨⟨by decide +kernel, by decide +kernel⟩, List.mem_of_getElem? (i := 262) (by decide +kernel), List.mem_of_getElem? (i := 812) (by decide +kernel), List.mem_of_getElem? (i := 813) (by decide +kernel)⟩
theorem lw_p20 : lw_okq (⟨"FlightReader$Filter", "takeSign", "(C)I"⟩, 12) := ⟨⟨by decide +kernel, by decide +kernel⟩, List.mem_of_getElem? (i := 262) (by decide +kernel), List.mem_of_getElem? (i := 816) (by decide +kernel), List.mem_of_getElem? (i := 817) (by decide +kernel)⟩
theorem lw_p21 : lw_okq (⟨"FlightReader$Filter", "takeMinus", "()I"⟩, 12) := ⟨⟨by decide +kernel, by decide +kernel⟩, List.mem_of_getElem? (i := 262) (by decide +kernel), List.mem_of_getElem? (i := 820) (by decide +kernel), List.mem_of_getElem? (i := 821) (by decide +kernel)⟩
theorem lw_p22 : lw_okq (⟨"FlightReader$Filter", "takeDigit", "(C)I"⟩, 12) := ⟨⟨by decide +kernel, by decide +kernel⟩, List.mem_of_getElem? (i := 262) (by decide +kernel), List.mem_of_getElem? (i := 824) (by decide +kernel), List.mem_of_getElem? (i := 825) (by decide +kernel)⟩
theorem lw_p23 : lw_okq (⟨"FlightReader$Filter", "holds", "(CJJ)Z"⟩, 12) := ⟨⟨by decide +kernel, by decide +kernel⟩, List.mem_of_getElem? (i := 262) (by decide +kernel), List.mem_of_getElem? (i := 835) (by decide +kernel), List.mem_of_getElem? (i := 836) (by decide +kernel)⟩
theorem lw_p24 : lw_okq (⟨"FlightReader", "tallyChosen", "(I)V"⟩, 10) := ⟨⟨by decide +kernel, by decide +kernel⟩, List.mem_of_getElem? (i := 20) (by decide +kernel), List.mem_of_getElem? (i := 853) (by decide +kernel), List.mem_of_getElem? (i := 854) (by decide +kernel)⟩
theorem lw_p25 : lw_okq (⟨"FlightReaderModel", "chunk", "(I)I"⟩, 58) := ⟨⟨by decide +kernel, by decide +kernel⟩, List.mem_of_getElem? (i := 886) (by decide +kernel), List.mem_of_getElem? (i := 1079) (by decide +kernel), List.mem_of_getElem? (i := 1080) (by decide +kernel)⟩
theorem lw_p26 : lw_okq (⟨"FlightReaderModel", "wrong", "(II)V"⟩, 58) := ⟨⟨by decide +kernel, by decide +kernel⟩, List.mem_of_getElem? (i := 886) (by decide +kernel), List.mem_of_getElem? (i := 1083) (by decide +kernel), List.mem_of_getElem? (i := 1084) (by decide +kernel)⟩
theorem lw_p27 : lw_okq (⟨"FlightReaderModel", "header", "(I)V"⟩, 58) := ⟨⟨by decide +kernel, by decide +kernel⟩, List.mem_of_getElem? (i := 886) (by decide +kernel), List.mem_of_getElem? (i := 1087) (by decide +kernel), List.mem_of_getElem? (i := 1088) (by decide +kernel)⟩
theorem lw_p28 : lw_okq (⟨"FlightReaderModel", "get", "(I)I"⟩, 58) := ⟨⟨by decide +kernel, by decide +kernel⟩, List.mem_of_getElem? (i := 886) (by decide +kernel), List.mem_of_getElem? (i := 1091) (by decide +kernel), List.mem_of_getElem? (i := 1092) (by decide +kernel)⟩
theorem lw_p29 : lw_okq (⟨"FlightReaderModel", "two", "(I)I"⟩, 58) := ⟨⟨by decide +kernel, by decide +kernel⟩, List.mem_of_getElem? (i := 886) (by decide +kernel), List.mem_of_getElem? (i := 1095) (by decide +kernel), List.mem_of_getElem? (i := 1096) (by decide +kernel)⟩
theorem lw_p30 : lw_okq (⟨"FlightReaderModel", "four", "(I)J"⟩, 58) := ⟨⟨by decide +kernel, by decide +kernel⟩, List.mem_of_getElem? (i := 886) (by decide +kernel), List.mem_of_getElem? (i := 1099) (by decide +kernel), List.mem_of_getElem? (i := 1100) (by decide +kernel)⟩
theorem lw_p31 : lw_okq (⟨"FlightReaderModel", "metadata", "(II)V"⟩, 58) := ⟨⟨by decide +kernel, by decide +kernel⟩, List.mem_of_getElem? (i := 886) (by decide +kernel), List.mem_of_getElem? (i := 1103) (by decide +kernel), List.mem_of_getElem? (i := 1104) (by decide +kernel)⟩
def lw_privs_2 : List (MethodName × Nat) := [(⟨"FlightReader$Filter", "stateAfter", "(C)I"⟩, 12), (⟨"FlightReader$Filter", "takeName", "(C)I"⟩, 12), (⟨"FlightReader$Filter", "takeStep", "(C)I"⟩, 12), (⟨"FlightReader$Filter", "takeDot", "()I"⟩, 12), (⟨"FlightReader$Filter", "takeSign", "(C)I"⟩, 12), (⟨"FlightReader$Filter", "takeMinus", "()I"⟩, 12), (⟨"FlightReader$Filter", "takeDigit", "(C)I"⟩, 12), (⟨"FlightReader$Filter", "holds", "(CJJ)Z"⟩, 12), (⟨"FlightReader", "tallyChosen", "(I)V"⟩, 10), (⟨"FlightReaderModel", "chunk", "(I)I"⟩, 58), (⟨"FlightReaderModel", "wrong", "(II)V"⟩, 58), (⟨"FlightReaderModel", "header", "(I)V"⟩, 58), (⟨"FlightReaderModel", "get", "(I)I"⟩, 58), (⟨"FlightReaderModel", "two", "(I)I"⟩, 58), (⟨"FlightReaderModel", "four", "(I)J"⟩, 58), (⟨"FlightReaderModel", "metadata", "(II)V"⟩, 58)]
theorem lw_r2 : ∀ q ∈ lw_privs_2, lw_okq q := List.forall_mem_cons.mpr ⟨lw_p16, List.forall_mem_cons.mpr ⟨lw_p17, List.forall_mem_cons.mpr ⟨lw_p18, List.forall_mem_cons.mpr ⟨lw_p19, List.forall_mem_cons.mpr ⟨lw_p20, List.forall_mem_cons.mpr ⟨lw_p21, List.forall_mem_cons.mpr ⟨lw_p22, List.forall_mem_cons.mpr ⟨lw_p23, List.forall_mem_cons.mpr ⟨lw_p24, List.forall_mem_cons.mpr ⟨lw_p25, List.forall_mem_cons.mpr ⟨lw_p26, List.forall_mem_cons.mpr ⟨lw_p27, List.forall_mem_cons.mpr ⟨lw_p28, List.forall_mem_cons.mpr ⟨lw_p29, List.forall_mem_cons.mpr ⟨lw_p30, List.forall_mem_cons.mpr ⟨lw_p31, fun _ h => absurd h List.not_mem_nil⟩⟩⟩⟩⟩⟩⟩⟩⟩⟩⟩⟩⟩⟩⟩⟩
theorem lw_p32 : lw_okq (⟨"FlightReaderModel", "begins", "(II)I"⟩, 58) := ⟨⟨by decide +kernel, by decide +kernel⟩, List.mem_of_getElem? (i := 886) (by decide +kernel), List.mem_of_getElem? (i := 1107) (by decide +kernel), List.mem_of_getElem? (i := 1108) (by decide +kernel)⟩
theorem lw_p33 : lw_okq (⟨"FlightReaderModel", "small", "()I"⟩, 58) := ⟨⟨by decide +kernel, by decide +kernel⟩, List.mem_of_getElem? (i := 886) (by decide +kernel), List.mem_of_getElem? (i := 1111) (by decide +kernel), List.mem_of_getElem? (i := 1112) (by decide +kernel)⟩
theorem lw_p34 : lw_okq (⟨"FlightReaderModel", "compressed", "()J"⟩, 58) := ⟨⟨by decide +kernel, by decide +kernel⟩, List.mem_of_getElem? (i := 886) (by decide +kernel), List.mem_of_getElem? (i := 1115) (by decide +kernel), List.mem_of_getElem? (i := 1116) (by decide +kernel)⟩
theorem lw_p35 : lw_okq (⟨"FlightReaderModel", "typeTold", "()V"⟩, 58) := ⟨⟨by decide +kernel, by decide +kernel⟩, List.mem_of_getElem? (i := 886) (by decide +kernel), List.mem_of_getElem? (i := 1120) (by decide +kernel), List.mem_of_getElem? (i := 1121) (by decide +kernel)⟩
theorem lw_p36 : lw_okq (⟨"FlightReaderModel", "typeOf", "(JI)I"⟩, 58) := ⟨⟨by decide +kernel, by decide +kernel⟩, List.mem_of_getElem? (i := 886) (by decide +kernel), List.mem_of_getElem? (i := 1125) (by decide +kernel), List.mem_of_getElem? (i := 1126) (by decide +kernel)⟩
theorem lw_p37 : lw_okq (⟨"FlightReaderModel", "next", "()I"⟩, 58) := ⟨⟨by decide +kernel, by decide +kernel⟩, List.mem_of_getElem? (i := 886) (by decide +kernel), List.mem_of_getElem? (i := 1129) (by decide +kernel), List.mem_of_getElem? (i := 1130) (by decide +kernel)⟩
theorem lw_p38 : lw_okq (⟨"FlightReaderModel", "fieldTold", "(I)V"⟩, 58) := ⟨⟨by decide +kernel, by decide +kernel⟩, List.mem_of_getElem? (i := 886) (by decide +kernel), List.mem_of_getElem? (i := 1133) (by decide +kernel), List.mem_of_getElem? (i := 1134) (by decide +kernel)⟩
theorem lw_p39 : lw_okq (⟨"FlightReaderModel", "fieldOf", "(II)I"⟩, 58) := ⟨⟨by decide +kernel, by decide +kernel⟩, List.mem_of_getElem? (i := 886) (by decide +kernel), List.mem_of_getElem? (i := 1137) (by decide +kernel), List.mem_of_getElem? (i := 1138) (by decide +kernel)⟩
theorem lw_p40 : lw_okq (⟨"FlightReaderModel", "structures", "(I)V"⟩, 58) := ⟨⟨by decide +kernel, by decide +kernel⟩, List.mem_of_getElem? (i := 886) (by decide +kernel), List.mem_of_getElem? (i := 1141) (by decide +kernel), List.mem_of_getElem? (i := 1142) (by decide +kernel)⟩
theorem lw_p41 : lw_okq (⟨"FlightReaderModel", "held", "(I)Z"⟩, 58) := ⟨⟨by decide +kernel, by decide +kernel⟩, List.mem_of_getElem? (i := 886) (by decide +kernel), List.mem_of_getElem? (i := 1147) (by decide +kernel), List.mem_of_getElem? (i := 1148) (by decide +kernel)⟩
theorem lw_p42 : lw_okq (⟨"FlightReaderModel", "checkpoint", "(I)I"⟩, 58) := ⟨⟨by decide +kernel, by decide +kernel⟩, List.mem_of_getElem? (i := 886) (by decide +kernel), List.mem_of_getElem? (i := 1151) (by decide +kernel), List.mem_of_getElem? (i := 1152) (by decide +kernel)⟩
theorem lw_p43 : lw_okq (⟨"FlightReaderModel", "pass", "(JI)V"⟩, 58) := ⟨⟨by decide +kernel, by decide +kernel⟩, List.mem_of_getElem? (i := 886) (by decide +kernel), List.mem_of_getElem? (i := 1155) (by decide +kernel), List.mem_of_getElem? (i := 1156) (by decide +kernel)⟩
theorem lw_p44 : lw_okq (⟨"FlightReaderModel", "begin", "(JI)V"⟩, 58) := ⟨⟨by decide +kernel, by decide +kernel⟩, List.mem_of_getElem? (i := 886) (by decide +kernel), List.mem_of_getElem? (i := 1159) (by decide +kernel), List.mem_of_getElem? (i := 1160) (by decide +kernel)⟩
theorem lw_p45 : lw_okq (⟨"FlightReaderModel", "counted", "()V"⟩, 58) := ⟨⟨by decide +kernel, by decide +kernel⟩, List.mem_of_getElem? (i := 886) (by decide +kernel), List.mem_of_getElem? (i := 1163) (by decide +kernel), List.mem_of_getElem? (i := 1164) (by decide +kernel)⟩
theorem lw_p46 : lw_okq (⟨"FlightReaderModel", "push", "(IJI)V"⟩, 58) := ⟨⟨by decide +kernel, by decide +kernel⟩, List.mem_of_getElem? (i := 886) (by decide +kernel), List.mem_of_getElem? (i := 1167) (by decide +kernel), List.mem_of_getElem? (i := 1168) (by decide +kernel)⟩
theorem lw_p47 : lw_okq (⟨"FlightReaderModel", "plain", "(I)V"⟩, 58) := ⟨⟨by decide +kernel, by decide +kernel⟩, List.mem_of_getElem? (i := 886) (by decide +kernel), List.mem_of_getElem? (i := 1171) (by decide +kernel), List.mem_of_getElem? (i := 1172) (by decide +kernel)⟩
def lw_privs_3 : List (MethodName × Nat) := [(⟨"FlightReaderModel", "begins", "(II)I"⟩, 58), (⟨"FlightReaderModel", "small", "()I"⟩, 58), (⟨"FlightReaderModel", "compressed", "()J"⟩, 58), (⟨"FlightReaderModel", "typeTold", "()V"⟩, 58), (⟨"FlightReaderModel", "typeOf", "(JI)I"⟩, 58), (⟨"FlightReaderModel", "next", "()I"⟩, 58), (⟨"FlightReaderModel", "fieldTold", "(I)V"⟩, 58), (⟨"FlightReaderModel", "fieldOf", "(II)I"⟩, 58), (⟨"FlightReaderModel", "structures", "(I)V"⟩, 58), (⟨"FlightReaderModel", "held", "(I)Z"⟩, 58), (⟨"FlightReaderModel", "checkpoint", "(I)I"⟩, 58), (⟨"FlightReaderModel", "pass", "(JI)V"⟩, 58), (⟨"FlightReaderModel", "begin", "(JI)V"⟩, 58), (⟨"FlightReaderModel", "counted", "()V"⟩, 58), (⟨"FlightReaderModel", "push", "(IJI)V"⟩, 58), (⟨"FlightReaderModel", "plain", "(I)V"⟩, 58)]
theorem lw_r3 : ∀ q ∈ lw_privs_3, lw_okq q := List.forall_mem_cons.mpr ⟨lw_p32, List.forall_mem_cons.mpr ⟨lw_p33, List.forall_mem_cons.mpr ⟨lw_p34, List.forall_mem_cons.mpr ⟨lw_p35, List.forall_mem_cons.mpr ⟨lw_p36, List.forall_mem_cons.mpr ⟨lw_p37, List.forall_mem_cons.mpr ⟨lw_p38, List.forall_mem_cons.mpr ⟨lw_p39, List.forall_mem_cons.mpr ⟨lw_p40, List.forall_mem_cons.mpr ⟨lw_p41, List.forall_mem_cons.mpr ⟨lw_p42, List.forall_mem_cons.mpr ⟨lw_p43, List.forall_mem_cons.mpr ⟨lw_p44, List.forall_mem_cons.mpr ⟨lw_p45, List.forall_mem_cons.mpr ⟨lw_p46, List.forall_mem_cons.mpr ⟨lw_p47, fun _ h => absurd h List.not_mem_nil⟩⟩⟩⟩⟩⟩⟩⟩⟩⟩⟩⟩⟩⟩⟩⟩
theorem lw_p48 : lw_okq (⟨"FlightReaderModel", "text", "()V"⟩, 58) := ⟨⟨by decide +kernel, by decide +kernel⟩, List.mem_of_getElem? (i := 886) (by decide +kernel), List.mem_of_getElem? (i := 1175) (by decide +kernel), List.mem_of_getElem? (i := 1176) (by decide +kernel)⟩
theorem lw_p49 : lw_okq (⟨"FlightReaderModel", "character", "(I)I"⟩, 58) := ⟨⟨by decide +kernel, by decide +kernel⟩, List.mem_of_getElem? (i := 886) (by decide +kernel), List.mem_of_getElem? (i := 1179) (by decide +kernel), List.mem_of_getElem? (i := 1180) (by decide +kernel)⟩
theorem lw_p50 : lw_okq (⟨"FlightReaderModel", "finish", "()V"⟩, 58) := ⟨⟨by decide +kernel, by decide +kernel⟩, List.mem_of_getElem? (i := 886) (by decide +kernel), List.mem_of_getElem? (i := 1185) (by decide +kernel), List.mem_of_getElem? (i := 1186) (by decide +kernel)⟩
theorem lw_p51 : lw_okq (⟨"FlightReaderModel", "toldEvent", "(IJ)V"⟩, 58) := ⟨⟨by decide +kernel, by decide +kernel⟩, List.mem_of_getElem? (i := 886) (by decide +kernel), List.mem_of_getElem? (i := 1189) (by decide +kernel), List.mem_of_getElem? (i := 1190) (by decide +kernel)⟩
theorem lw_p52 : lw_okq (⟨"FlightReaderModel", "chain", "(II)V"⟩, 58) := ⟨⟨by decide +kernel, by decide +kernel⟩, List.mem_of_getElem? (i := 886) (by decide +kernel), List.mem_of_getElem? (i := 1193) (by decide +kernel), List.mem_of_getElem? (i := 1194) (by decide +kernel)⟩
theorem lw_p53 : lw_okq (⟨"FlightReaderModel", "isCheckpoint", "(III)Z"⟩, 58) := ⟨⟨by decide +kernel, by decide +kernel⟩, List.mem_of_getElem? (i := 886) (by decide +kernel), List.mem_of_getElem? (i := 1197) (by decide +kernel), List.mem_of_getElem? (i := 1198) (by decide +kernel)⟩
theorem lw_p54 : lw_okq (⟨"FlightReaderModel", "fails", "(I)I"⟩, 58) := ⟨⟨by decide +kernel, by decide +kernel⟩, List.mem_of_getElem? (i := 886) (by decide +kernel), List.mem_of_getElem? (i := 1201) (by decide +kernel), List.mem_of_getElem? (i := 1202) (by decide +kernel)⟩
theorem lw_p55 : lw_okq (⟨"FlightReaderModel", "isEvent", "(I)Z"⟩, 58) := ⟨⟨by decide +kernel, by decide +kernel⟩, List.mem_of_getElem? (i := 886) (by decide +kernel), List.mem_of_getElem? (i := 1217) (by decide +kernel), List.mem_of_getElem? (i := 1218) (by decide +kernel)⟩
theorem lw_p56 : lw_okq (⟨"FlightReaderModel", "go", "(I)V"⟩, 58) := ⟨⟨by decide +kernel, by decide +kernel⟩, List.mem_of_getElem? (i := 886) (by decide +kernel), List.mem_of_getElem? (i := 1221) (by decide +kernel), List.mem_of_getElem? (i := 1222) (by decide +kernel)⟩
theorem lw_p57 : lw_okq (⟨"FlightReaderModel", "nanos", "(JI)J"⟩, 58) := ⟨⟨by decide +kernel, by decide +kernel⟩, List.mem_of_getElem? (i := 886) (by decide +kernel), List.mem_of_getElem? (i := 1225) (by decide +kernel), List.mem_of_getElem? (i := 1226) (by decide +kernel)⟩
theorem lw_p58 : lw_okq (⟨"FlightReaderModel", "lead", "(II)I"⟩, 58) := ⟨⟨by decide +kernel, by decide +kernel⟩, List.mem_of_getElem? (i := 886) (by decide +kernel), List.mem_of_getElem? (i := 1237) (by decide +kernel), List.mem_of_getElem? (i := 1238) (by decide +kernel)⟩
theorem lw_p59 : lw_okq (⟨"FlightReaderModel", "step", "(I)V"⟩, 58) := ⟨⟨by decide +kernel, by decide +kernel⟩, List.mem_of_getElem? (i := 886) (by decide +kernel), List.mem_of_getElem? (i := 1241) (by decide +kernel), List.mem_of_getElem? (i := 1242) (by decide +kernel)⟩
theorem lw_p60 : lw_okq (⟨"FlightReaderModel", "spotStructure", "()I"⟩, 58) := ⟨⟨by decide +kernel, by decide +kernel⟩, List.mem_of_getElem? (i := 886) (by decide +kernel), List.mem_of_getElem? (i := 1245) (by decide +kernel), List.mem_of_getElem? (i := 1246) (by decide +kernel)⟩
theorem lw_p61 : lw_okq (⟨"FlightReaderModel", "come", "(JI)V"⟩, 58) := ⟨⟨by decide +kernel, by decide +kernel⟩, List.mem_of_getElem? (i := 886) (by decide +kernel), List.mem_of_getElem? (i := 1249) (by decide +kernel), List.mem_of_getElem? (i := 1250) (by decide +kernel)⟩
theorem lw_p62 : lw_okq (⟨"FlightReaderModel", "settle", "()V"⟩, 58) := ⟨⟨by decide +kernel, by decide +kernel⟩, List.mem_of_getElem? (i := 886) (by decide +kernel), List.mem_of_getElem? (i := 1253) (by decide +kernel), List.mem_of_getElem? (i := 1254) (by decide +kernel)⟩
theorem lw_p63 : lw_okq (⟨"FlightReaderModel", "constant", "(JJ)I"⟩, 58) := ⟨⟨by decide +kernel, by decide +kernel⟩, List.mem_of_getElem? (i := 886) (by decide +kernel), List.mem_of_getElem? (i := 1257) (by decide +kernel), List.mem_of_getElem? (i := 1258) (by decide +kernel)⟩
def lw_privs_4 : List (MethodName × Nat) := [(⟨"FlightReaderModel", "text", "()V"⟩, 58), (⟨"FlightReaderModel", "character", "(I)I"⟩, 58), (⟨"FlightReaderModel", "finish", "()V"⟩, 58), (⟨"FlightReaderModel", "toldEvent", "(IJ)V"⟩, 58), (⟨"FlightReaderModel", "chain", "(II)V"⟩, 58), (⟨"FlightReaderModel", "isCheckpoint", "(III)Z"⟩, 58), (⟨"FlightReaderModel", "fails", "(I)I"⟩, 58), (⟨"FlightReaderModel", "isEvent", "(I)Z"⟩, 58), (⟨"FlightReaderModel", "go", "(I)V"⟩, 58), (⟨"FlightReaderModel", "nanos", "(JI)J"⟩, 58), (⟨"FlightReaderModel", "lead", "(II)I"⟩, 58), (⟨"FlightReaderModel", "step", "(I)V"⟩, 58), (⟨"FlightReaderModel", "spotStructure", "()I"⟩, 58), (⟨"FlightReaderModel", "come", "(JI)V"⟩, 58), (⟨"FlightReaderModel", "settle", "()V"⟩, 58), (⟨"FlightReaderModel", "constant", "(JJ)I"⟩, 58)]
theorem lw_r4 : ∀ q ∈ lw_privs_4, lw_okq q := List.forall_mem_cons.mpr ⟨lw_p48, List.forall_mem_cons.mpr ⟨lw_p49, List.forall_mem_cons.mpr ⟨lw_p50, List.forall_mem_cons.mpr ⟨lw_p51, List.forall_mem_cons.mpr ⟨lw_p52, List.forall_mem_cons.mpr ⟨lw_p53, List.forall_mem_cons.mpr ⟨lw_p54, List.forall_mem_cons.mpr ⟨lw_p55, List.forall_mem_cons.mpr ⟨lw_p56, List.forall_mem_cons.mpr ⟨lw_p57, List.forall_mem_cons.mpr ⟨lw_p58, List.forall_mem_cons.mpr ⟨lw_p59, List.forall_mem_cons.mpr ⟨lw_p60, List.forall_mem_cons.mpr ⟨lw_p61, List.forall_mem_cons.mpr ⟨lw_p62, List.forall_mem_cons.mpr ⟨lw_p63, fun _ h => absurd h List.not_mem_nil⟩⟩⟩⟩⟩⟩⟩⟩⟩⟩⟩⟩⟩⟩⟩⟩
theorem lw_p64 : lw_okq (⟨"FlightReaderModel", "worth", "()J"⟩, 58) := ⟨⟨by decide +kernel, by decide +kernel⟩, List.mem_of_getElem? (i := 886) (by decide +kernel), List.mem_of_getElem? (i := 1265) (by decide +kernel), List.mem_of_getElem? (i := 1266) (by decide +kernel)⟩
theorem lw_p65 : lw_okq (⟨"FlightReaderModel", "characterAt", "(I)I"⟩, 58) := ⟨⟨by decide +kernel, by decide +kernel⟩, List.mem_of_getElem? (i := 886) (by decide +kernel), List.mem_of_getElem? (i := 1269) (by decide +kernel), List.mem_of_getElem? (i := 1270) (by decide +kernel)⟩
theorem lw_p66 : lw_okq (⟨"FlightReaderModel", "filter", "()I"⟩, 58) := ⟨⟨by decide +kernel, by decide +kernel⟩, List.mem_of_getElem? (i := 886) (by decide +kernel), List.mem_of_getElem? (i := 1286) (by decide +kernel), List.mem_of_getElem? (i := 1287) (by decide +kernel)⟩
theorem lw_p67 : lw_okq (⟨"FlightReaderModel", "letterAt", "(I)I"⟩, 58) := ⟨⟨by decide +kernel, by decide +kernel⟩, List.mem_of_getElem? (i := 886) (by decide +kernel), List.mem_of_getElem? (i := 1290) (by decide +kernel), List.mem_of_getElem? (i := 1291) (by decide +kernel)⟩
theorem lw_p68 : lw_okq (⟨"FlightReaderModel", "comparison", "(I)I"⟩, 58) := ⟨⟨by decide +kernel, by decide +kernel⟩, List.mem_of_getElem? (i := 886) (by decide +kernel), List.mem_of_getElem? (i := 1294) (by decide +kernel), List.mem_of_getElem? (i := 1295) (by decide +kernel)⟩
theorem lw_p69 : lw_okq (⟨"FlightReaderModel", "passes", "(I)Z"⟩, 58) := ⟨⟨by decide +kernel, by decide +kernel⟩, List.mem_of_getElem? (i := 886) (by decide +kernel), List.mem_of_getElem? (i := 1308) (by decide +kernel), List.mem_of_getElem? (i := 1309) (by decide +kernel)⟩
theorem lw_p70 : lw_okq (⟨"FlightReaderModel", "isNumber", "(II)Z"⟩, 58) := ⟨⟨by decide +kernel, by decide +kernel⟩, List.mem_of_getElem? (i := 886) (by decide +kernel), List.mem_of_getElem? (i := 1312) (by decide +kernel), List.mem_of_getElem? (i := 1313) (by decide +kernel)⟩
theorem lw_p71 : lw_okq (⟨"FlightReaderModel", "gather", "(I)V"⟩, 58) := ⟨⟨by decide +kernel, by decide +kernel⟩, List.mem_of_getElem? (i := 886) (by decide +kernel), List.mem_of_getElem? (i := 1328) (by decide +kernel), List.mem_of_getElem? (i := 1329) (by decide +kernel)⟩
theorem lw_p72 : lw_okq (⟨"FlightReaderModel", "mean", "()J"⟩, 58) := ⟨⟨by decide +kernel, by decide +kernel⟩, List.mem_of_getElem? (i := 886) (by decide +kernel), List.mem_of_getElem? (i := 1332) (by decide +kernel), List.mem_of_getElem? (i := 1333) (by decide +kernel)⟩
theorem lw_p73 : lw_okq (⟨"FlightReaderModel", "groupOf", "(J)I"⟩, 58) := ⟨⟨by decide +kernel, by decide +kernel⟩, List.mem_of_getElem? (i := 886) (by decide +kernel), List.mem_of_getElem? (i := 1340) (by decide +kernel), List.mem_of_getElem? (i := 1341) (by decide +kernel)⟩
theorem lw_p74 : lw_okq (⟨"FlightReaderModel", "join", "(IJ)V"⟩, 58) := ⟨⟨by decide +kernel, by decide +kernel⟩, List.mem_of_getElem? (i := 886) (by decide +kernel), List.mem_of_getElem? (i := 1344) (by decide +kernel), List.mem_of_getElem? (i := 1345) (by decide +kernel)⟩
def lw_privs_5 : List (MethodName × Nat) := [(⟨"FlightReaderModel", "worth", "()J"⟩, 58), (⟨"FlightReaderModel", "characterAt", "(I)I"⟩, 58), (⟨"FlightReaderModel", "filter", "()I"⟩, 58), (⟨"FlightReaderModel", "letterAt", "(I)I"⟩, 58), (⟨"FlightReaderModel", "comparison", "(I)I"⟩, 58), (⟨"FlightReaderModel", "passes", "(I)Z"⟩, 58), (⟨"FlightReaderModel", "isNumber", "(II)Z"⟩, 58), (⟨"FlightReaderModel", "gather", "(I)V"⟩, 58), (⟨"FlightReaderModel", "mean", "()J"⟩, 58), (⟨"FlightReaderModel", "groupOf", "(J)I"⟩, 58), (⟨"FlightReaderModel", "join", "(IJ)V"⟩, 58)]
theorem lw_r5 : ∀ q ∈ lw_privs_5, lw_okq q := List.forall_mem_cons.mpr ⟨lw_p64, List.forall_mem_cons.mpr ⟨lw_p65, List.forall_mem_cons.mpr ⟨lw_p66, List.forall_mem_cons.mpr ⟨lw_p67, List.forall_mem_cons.mpr ⟨lw_p68, List.forall_mem_cons.mpr ⟨lw_p69, List.forall_mem_cons.mpr ⟨lw_p70, List.forall_mem_cons.mpr ⟨lw_p71, List.forall_mem_cons.mpr ⟨lw_p72, List.forall_mem_cons.mpr ⟨lw_p73, List.forall_mem_cons.mpr ⟨lw_p74, fun _ h => absurd h List.not_mem_nil⟩⟩⟩⟩⟩⟩⟩⟩⟩⟩⟩
def lw_privs : List (MethodName × Nat) := lw_privs_1 ++ (lw_privs_2 ++ (lw_privs_3 ++ (lw_privs_4 ++ (lw_privs_5))))
def lw_tbl : List Cond := k2_sels lw_privs ++ tables_1
theorem lw_privs_ok : ∀ q ∈ lw_privs, lw_okq q := by
  show ∀ q ∈ lw_privs_1 ++ (lw_privs_2 ++ (lw_privs_3 ++ (lw_privs_4 ++ (lw_privs_5)))), lw_okq q
  exact List.forall_mem_append.mpr ⟨lw_r1, List.forall_mem_append.mpr ⟨lw_r2, List.forall_mem_append.mpr ⟨lw_r3, List.forall_mem_append.mpr ⟨lw_r4, lw_r5⟩⟩⟩⟩
end
section
/-! ===== BEGIN words of one list among another's, by their places ===== -/
theorem goodIn_r {big : List Cond} (ws : List Cond) (ps : List Nat) (hp : ws = ps.filterMap (fun i => big[i]?)) (h : ws.all goodWord = true) : GoodIn big ws := by
  intro w hw
  have h1 := List.all_eq_true.mp h w hw
  rw [hp] at hw
  obtain ⟨i, -, hi⟩ := List.mem_filterMap.mp hw
  have hm : w ∈ big := by first | exact List.mem_of_getElem? hi | exact List.getElem?_mem hi
  exact ⟨hm, good_of_word h1⟩
theorem goodIn_app {big a b : List Cond} (ha : GoodIn big a) (hb : GoodIn big b) : GoodIn big (a ++ b) := fun w h => (List.mem_append.mp h).elim (ha w) (hb w)
theorem goodIn_ca {big a b : List Cond} {c : Cond} (ha : GoodIn big (c :: a)) (hb : GoodIn big b) : GoodIn big (c :: (a ++ b)) := fun w h => (List.mem_cons.mp h).elim (fun e => ha w (List.mem_cons.mpr (Or.inl e))) (fun h => (List.mem_append.mp h).elim (fun h => ha w (List.mem_cons.mpr (Or.inr h))) (hb w))
theorem goodIn_sub {big ws : List Cond} (hm : ∀ w ∈ ws, w ∈ big) (h : ws.all goodWord = true) : GoodIn big ws := fun w hw => ⟨hm w hw, good_of_word (List.all_eq_true.mp h w hw)⟩
/-! ===== END ===== -/

/-! ===== BEGIN exceptions that leave a method, and their catching by the caller (launches without stack traces) ===== -/
section VXA
/-! The laws vx_back, vx_callV, vx_callS, vx_callSW, vx_throw0, vx_throwS follow proofs of the library, with one case more: JvmDerived/Free/Laws.lean (Back.of_free), Shelf42/LK1.lean (callV, callS), Shelf/KitTraced.lean (throwNew0V, throwNewS). -/
/-- where a method has thrown q: the class by its name, the cell, what was written, the world -/
def vx_T (XC : String → State → State → Prop) (st : State) (q : Addr) (t : State) (mc ms : Nat) (free : Addr → Prop) : Prop :=
  ∃ (E : String) (ce : Cell) (L : List Loc), XC E st t ∧ t.heap[q]? = some ce ∧ ce.vm = .none ∧ st.vm.findClass E = some ce.cls ∧ st.WarmedH t.vm ∧ st.sameButNew ({ t with vm := st.vm } : State) L mc ms ∧ ∀ z ∈ L, free z.base
def vx_Q (Qc : Array Value → State → Outcome → State → Prop) (XC : String → State → State → Prop) (mc ms : Nat) (free : Addr → Prop) : Array Value → State → Outcome → State → Prop := fun a st o t =>
  (Qc a st o t ∧ ∃ L, FrameEnd st o t L mc ms ∧ ∀ q ∈ L, free q.base) ∨ ∃ q, o = .threw q ∧ vx_T XC st q t mc ms free
/-- a callee that returns or throws -/
def vx_Met (l : Launch) (y : MethodName) (ws : List Cond) (rm : Room) (Pc : Array Value → State → Prop) (Qc : Array Value → State → Outcome → State → Prop) (XC : String → State → State → Prop) (mc ms : Nat) (free : Addr → Prop) : Prop :=
  MetFree l y (headSpec ws rm) Pc (fun _ _ _ _ _ => True) (vx_Q Qc XC mc ms free)
def vx_Post (XC : String → State → State → Prop) (mc ms : Nat) (free : Addr → Prop) : Pt → Array Value → Addr → Pt → Prop := fun A a q B =>
  ∃ (g : JFrame) (mk : MethodId) (t : State) (L : List Loc) (E : String) (ce : Cell), B.U.heap = t.heap ∧ B.U.vm = t.vm ∧ XC E (A.U.calling g mk a) t ∧ t.heap[q]? = some ce ∧ ce.vm = .none ∧ A.U.vm.findClass E = some ce.cls ∧ B.locs = A.locs ++ L ∧ (∀ z ∈ L, free z.base) ∧ B.cells = A.cells + mc ∧ B.slots = A.slots + ms
def vx_Back (l : Launch) (R : Room) (p : Program) (e : Env) (below : List Frame) (s : State) (sargs : Array Value) (y : MethodName) (len W9 : Nat)
    (Pre : Pt → Array Value → Prop) (Post : Pt → Array Value → Option Value → Pt → Prop) (PostX : Pt → Array Value → Addr → Pt → Prop) : Prop :=
  ∀ (m : MethodId) (meth : Method) (c : Code) (A : Pt) (g : JFrame) (ig : Instr) (mk : MethodId) (a : Array Value),
    Stand p l e R s m sargs below meth c A.U A.locs A.cells A.slots → g.method = m → g.locals.size = c.maxLocals → decode c.code g.pc = .ok (ig, len) →
    2 * g.monitorRoom + (g.stack.map fun v => v.category).sum ≤ W9 → A.U.methodNamed? y = some mk → Pre A a →
    (∃ (v : Option Value) (B : Pt), Stand p l e R s m sargs below meth c B.U B.locs B.cells B.slots ∧ Post A a v B ∧
      Steps p.tables e below (doInvoke e (A.U.setTop g) [] mk a).1 (B.U.setTop { g with pc := g.pc + len, stack := v.toList ++ g.stack })) ∨
    (∃ (q : Addr) (B : Pt), Stand p l e R s m sargs below meth c B.U B.locs B.cells B.slots ∧ PostX A a q B ∧
      Steps p.tables e below (doInvoke e (A.U.setTop g) [] mk a).1 ((B.U.setTop g).pushFrame (.throwing q)))
section Payer
variable {l : Launch} {R : Room} {p : Program} {e : Env} {below : List Frame} {s : State} {sargs : Array Value} {y : MethodName} {len W9 : Nat}
theorem vx_back {ws : List Cond} {rm : Room} {Pc : Array Value → State → Prop} {Qc : Array Value → State → Outcome → State → Prop} {XC : String → State → State → Prop} {mc ms : Nat} {free : Addr → Prop} {bytes : ByteArray} {maxL : Nat} {ret : Option FieldType}
    (hM : vx_Met l y ws rm Pc Qc XC mc ms free) (hblind : FrameBlind Pc) (hrc : rm.cells = mc) (hrs : rm.slots = ms)
    (hframes : rm.frames + 1 ≤ R.frames) (hlocals : W9 + (maxL + 11) + rm.locals ≤ R.locals)
    (hws : ∀ w ∈ ws, ∀ a' U, s.WarmedH U.vm → w.before a' U = true) (hcode : Cond.code y bytes maxL ret ∈ ws) (hinit : ∀ a' U, s.WarmedH U.vm → (Cond.initialized y.cls).before a' U = true) :
    vx_Back l R p e below s sargs y len W9 (PreOf R mc ms Pc) (PostOf Qc mc ms free) (vx_Post XC mc ms free) := by
  intro m meth c A g ig mk a X hg hsize hdg hW hn hp
  have h1 : (headSpec ws rm).pre.before a A.U = true := atoms_intro fun w hw => hws w hw _ _ X.warmed
  have h2 : (Cond.code y bytes maxL ret).before a A.U = true := hws _ hcode _ _ X.warmed
  have h3 : (Cond.initialized y.cls).before a A.U = true := hinit _ _ X.warmed
  have h4 : A.cells + (headSpec ws rm).room.cells ≤ R.cells := by rw [show (headSpec ws rm).room.cells = mc from hrc]; exact hp.1
  have h5 : A.slots + (headSpec ws rm).room.slots ≤ R.slots := by rw [show (headSpec ws rm).room.slots = ms from hrs]; exact hp.2.1
  have hPc : Pc a (A.U.calling g mk a) := hblind _ _ _ _ hp.2.2
  obtain ⟨U, Ls, c0, s0⟩ := A
  dsimp only [Pt.U, Pt.locs, Pt.cells, Pt.slots] at h1 h2 h3 h4 h5 X hn hPc ⊢
  obtain ⟨methY, cY, hmY, hcY, -, hlY, -, -, -, -⟩ := Cond.code_spec hn h2
  obtain ⟨kY, hkY, -⟩ := className_of_methodNamed hn
  have hinitY : kY.init = .initialized := Cond.initialized_spec (findClass_of_methodNamed hn) hkY h3
  have h : At U g.method c below := by rw [hg]; exact X.here
  have hlocals9 : W9 + (maxL + 11) + (headSpec ws rm).room.locals ≤ R.locals := hlocals
  have happ : (headSpec ws rm).appliesLoose y e.platform (U.calling g mk a) = true :=
    Spec.appliesLoose_calling (g := g) h hdg hn hkY hinitY
      (X.room_calling (g := g) (R' := (headSpec ws rm).room) hsize hmY hcY hframes (by rw [hlY]; omega) h4 h5) h1
  obtain ⟨mid, hmid⟩ := h.above
  have hfr : (U.setTop g).frames = (.java g :: mid) ++ below := by rw [State.frames_setTop' g h.top, hmid]; rfl
  obtain ⟨o, s₂, hsteps, -, hend, hq⟩ := Steps.callFree hM p X.admits X.cas X.clock (acts := []) hfr happ hPc trivial
  have hq' : vx_Q Qc XC mc ms free a (U.calling g mk a) o s₂ := hq
  rw [State.frames_setTop' g h.top] at hend
  obtain ⟨g₀, hg0⟩ := Option.isSome_iff_exists.mp h.top
  obtain ⟨r, hr⟩ := State.topJava?_eq_some.mp hg0
  have hr' : (({ U with heap := s₂.heap, slotsUsed := s₂.slotsUsed } : State).setVm s₂.vm).frames = .java g₀ :: r := hr
  rcases hq' with ⟨hqc, L, hfe, hL⟩ | ⟨q, rfl, E, ce, L, hx, hce, hcv, hcl, hW₂, hsm, hL⟩
  · obtain ⟨⟨v, rfl⟩, hW₂, e2, q2, q3, q4, q5, q6⟩ := id hfe
    have e3 : s₂ = ({ (U.calling g mk a).setFrames s₂.frames with heap := s₂.heap, slotsUsed := s₂.slotsUsed } : State).setVm s₂.vm := by
      have : s₂ = ({ s₂ with vm := (U.calling g mk a).vm } : State).setVm s₂.vm := rfl
      rw [e2] at this
      exact this
    obtain ⟨c₂, i₂, len₂, hc₂, hd₂, hf₂⟩ := hend
    have hW' : U.WarmedH s₂.vm := hW₂
    have hcc : c₂ = c := by
      have h1 : s₂.code? g.method = U.code? g.method := by
        rw [State.code?_eq, State.code?_eq, hW'.alike.method?]
      exact Option.some.inj (hc₂.symm.trans (h1.trans h.code))
    subst hcc
    have hlen : len₂ = len := by rw [hdg] at hd₂; cases hd₂; rfl
    subst hlen
    have hs₂ : s₂ = (({ U with heap := s₂.heap, slotsUsed := s₂.slotsUsed } : State).setVm s₂.vm).setTop { g with pc := g.pc + len₂, stack := v.toList ++ g.stack } := by
      refine e3.trans ?_
      rw [hf₂, State.calling_eq h.top, State.setFrames_setFrames, State.setTop_of_frames _ hr', hr]
      rfl
    have hsame : U.sameButNew ({ U with heap := s₂.heap, slotsUsed := s₂.slotsUsed } : State) L mc ms := by
      refine ⟨?_, q2, q3, q4, q5, q6⟩
      obtain ⟨t, ht, -⟩ := State.frames_cons hr
      show ({ U with heap := s₂.heap, slotsUsed := s₂.slotsUsed } : State) = { U.setFrames U.frames with heap := s₂.heap, slotsUsed := s₂.slotsUsed }
      rw [State.setFrames_self ht]
    subst hg
    refine Or.inl ⟨v, ⟨(({ U with heap := s₂.heap, slotsUsed := s₂.slotsUsed } : State).setVm s₂.vm), Ls ++ L, c0 + mc, s0 + ms⟩,
      ⟨X.admits, X.cas, X.clock, X.frames, X.room, X.hears, X.method, X.code, (X.here.setHeapUsed s₂.heap s₂.slotsUsed).setVm hW'.alike, X.tail, State.WarmedH.trans X.warmed hW', X.limits, X.bytes, X.same.trans (hsame.setVm s.vm)⟩,
      ⟨g, mk, s₂, L, rfl, rfl, hqc, rfl, hL, rfl, rfl⟩, ?_⟩
    show Steps p.tables e below _ ((({ U with heap := s₂.heap, slotsUsed := s₂.slotsUsed } : State).setVm s₂.vm).setTop { g with pc := g.pc + len₂, stack := v.toList ++ g.stack })
    rw [← hs₂]
    exact hsteps
  · obtain ⟨e2, q2, q3, q4, q5, q6⟩ := id hsm
    have e3 : s₂ = ({ (U.calling g mk a).setFrames s₂.frames with heap := s₂.heap, slotsUsed := s₂.slotsUsed } : State).setVm s₂.vm := by
      have : s₂ = ({ s₂ with vm := (U.calling g mk a).vm } : State).setVm s₂.vm := rfl
      rw [e2] at this
      exact this
    have hf₂ : s₂.frames = .throwing q :: .java g :: U.frames.tail := hend
    have hW' : U.WarmedH s₂.vm := hW₂
    have hs₂ : s₂ = ((({ U with heap := s₂.heap, slotsUsed := s₂.slotsUsed } : State).setVm s₂.vm).setTop g).pushFrame (.throwing q) := by
      refine e3.trans ?_
      rw [hf₂, State.calling_eq h.top, State.setFrames_setFrames, State.pushFrame, State.frames_setTop _ hr', State.setTop_of_frames _ hr', State.setFrames_setFrames, hr]
      rfl
    have hsame : U.sameButNew ({ U with heap := s₂.heap, slotsUsed := s₂.slotsUsed } : State) L mc ms := by
      refine ⟨?_, q2, q3, q4, q5, q6⟩
      obtain ⟨t, ht, -⟩ := State.frames_cons hr
      show ({ U with heap := s₂.heap, slotsUsed := s₂.slotsUsed } : State) = { U.setFrames U.frames with heap := s₂.heap, slotsUsed := s₂.slotsUsed }
      rw [State.setFrames_self ht]
    subst hg
    refine Or.inr ⟨q, ⟨(({ U with heap := s₂.heap, slotsUsed := s₂.slotsUsed } : State).setVm s₂.vm), Ls ++ L, c0 + mc, s0 + ms⟩,
      ⟨X.admits, X.cas, X.clock, X.frames, X.room, X.hears, X.method, X.code, (X.here.setHeapUsed s₂.heap s₂.slotsUsed).setVm hW'.alike, X.tail, State.WarmedH.trans X.warmed hW', X.limits, X.bytes, X.same.trans (hsame.setVm s.vm)⟩,
      ⟨g, mk, s₂, L, E, ce, rfl, rfl, hx, hce, hcv, hcl, rfl, hL, rfl, rfl⟩, ?_⟩
    show Steps p.tables e below _ (((({ U with heap := s₂.heap, slotsUsed := s₂.slotsUsed } : State).setVm s₂.vm).setTop g).pushFrame (.throwing q))
    rw [← hs₂]
    exact hsteps
end Payer
section Calls
variable {p : Program} {l : Launch} {e : Env} {R : Room} {s : State} {m : MethodId} {args : Array Value} {below : List Frame} {meth : Method} {c : Code} {T : State} {locs : List Loc} {cells slots : Nat}
theorem vx_callV (X : Stand p l e R s m args below meth c T locs cells slots) (hexec : p.tables.exec = Jvm.exec) {own C : String} {index : Nat} {y : MethodName} {bytes : ByteArray} {maxL : Nat} {ret : Option FieldType}
    (hown : s.vm.findClass own = some m.cls) (hlink : (Cond.methodLink own index y).before args s = true) (hinst : (Cond.instanceMethod y).before args s = true) (hsel : (Cond.selects C y y).before args s = true)
    (hcode : (Cond.code y bytes maxL ret).before args s = true) (hy : y.cls ≠ "java/lang/invoke/MethodHandle" ∧ y.cls ≠ "java/lang/invoke/VarHandle")
    {W9 : Nat} {Pre : Pt → Array Value → Prop} {Post : Pt → Array Value → Option Value → Pt → Prop} {PostX : Pt → Array Value → Addr → Pt → Prop} (hK : vx_Back l R p e below s args y 3 W9 Pre Post PostX)
    {b : Addr} {cellB : Cell} (hcell : T.heap[b]? = some cellB) (hobj : cellB.vm.isStatics = false) (hcls : s.vm.findClass C = some cellB.cls)
    {g : JFrame} (hg : g.method = m) (hsize : g.locals.size = c.maxLocals) {argsL rest : List Value} (hlen : ∀ sig, parseMethodDescriptor y.desc = some sig → argsL.length = sig.parameters.length)
    (hstack : g.stack = argsL.reverse ++ .ref b :: rest) (hW : 2 * g.monitorRoom + (rest.map fun v => v.category).sum ≤ W9) (hdg : decode c.code g.pc = .ok (.invokevirtual index, 3))
    (hpre : ∀ vm₁, s.WarmedH vm₁ → Pre ⟨T.setVm vm₁, locs, cells, slots⟩ (Value.ref b :: argsL).toArray) :
    (∃ (v : Option Value) (vm₁ : Vm) (B : Pt), s.WarmedH vm₁ ∧ Stand p l e R s m args below meth c B.U B.locs B.cells B.slots ∧ Post ⟨T.setVm vm₁, locs, cells, slots⟩ (Value.ref b :: argsL).toArray v B ∧
      ∀ target, Steps p.tables e below (B.U.setTop { g with pc := g.pc + 3, stack := v.toList ++ rest }) target → Steps p.tables e below (T.setTop g) target) ∨
    (∃ (q : Addr) (vm₁ : Vm) (B : Pt), s.WarmedH vm₁ ∧ Stand p l e R s m args below meth c B.U B.locs B.cells B.slots ∧ PostX ⟨T.setVm vm₁, locs, cells, slots⟩ (Value.ref b :: argsL).toArray q B ∧
      Steps p.tables e below (T.setTop g) ((B.U.setTop { g with stack := rest }).pushFrame (.throwing q))) := by
  obtain ⟨mk, methM, hnamed, hmethM, hstM, habM⟩ := Cond.instanceMethod_spec hinst
  obtain ⟨methM', cM, hmethM', -, -, -, -, -, -, hsigM⟩ := Cond.code_spec hnamed hcode
  cases hmethM.symm.trans hmethM'
  obtain ⟨c2, r2, m2, q1, q2, q3, q4, kP, hkP, hkPi⟩ := Cond.selects_spec hsel
  cases hcls.symm.trans q1
  cases (State.methodFound?_of_named hnamed hy).symm.trans q2
  cases hnamed.symm.trans q3
  have hselP : selectMethod e.platform s.vm cellB.cls mk = .method mk := by rw [Launch.admits_selectMethod X.admits]; exact q4
  obtain ⟨vm₁, X₁, hstep₁⟩ := X.invokevirtual hexec hown hlink hnamed hmethM hstM hkP hkPi hy (a := b) (cell := cellB) hcell
    (fun z h => by rw [h] at hobj; cases hobj) hselP hmethM habM hkP hkPi (g := g) hg (argsL := argsL) (rest := rest) (hlen _ hsigM) hstack hdg
  rcases hK m meth c ⟨T.setVm vm₁, locs, cells, slots⟩ { g with stack := rest } (.invokevirtual index) mk (Value.ref b :: argsL).toArray X₁ hg hsize hdg hW (X₁.named hnamed) (hpre vm₁ X₁.warmed) with ⟨v, B, X', hpost, hsteps⟩ | ⟨q, B, X', hpost, hsteps⟩
  · exact Or.inl ⟨v, vm₁, B, X₁.warmed, X', hpost, fun target h => hstep₁ _ fun acts => by rw [doInvoke_state]; exact hsteps.trans h⟩
  · exact Or.inr ⟨q, vm₁, B, X₁.warmed, X', hpost, hstep₁ _ fun acts => by rw [doInvoke_state]; exact hsteps⟩
theorem vx_callS (X : Stand p l e R s m args below meth c T locs cells slots) (hexec : p.tables.exec = Jvm.exec) {own : String} {index : Nat} {y : MethodName} {bytes : ByteArray} {maxL : Nat} {ret : Option FieldType}
    (hown : s.vm.findClass own = some m.cls) (hlink : (Cond.methodLink own index y).before args s = true) (hstat : (Cond.static y).before args s = true) (hinit : (Cond.initialized y.cls).before args s = true)
    (hcode : (Cond.code y bytes maxL ret).before args s = true) (hy : y.cls ≠ "java/lang/invoke/MethodHandle" ∧ y.cls ≠ "java/lang/invoke/VarHandle")
    {W9 : Nat} {Pre : Pt → Array Value → Prop} {Post : Pt → Array Value → Option Value → Pt → Prop} {PostX : Pt → Array Value → Addr → Pt → Prop} (hK : vx_Back l R p e below s args y 3 W9 Pre Post PostX)
    {g : JFrame} (hg : g.method = m) (hsize : g.locals.size = c.maxLocals) {argsL rest : List Value} (hlen : ∀ sig, parseMethodDescriptor y.desc = some sig → argsL.length = sig.parameters.length)
    (hstack : g.stack = argsL.reverse ++ rest) (hW : 2 * g.monitorRoom + (rest.map fun v => v.category).sum ≤ W9) (hdg : decode c.code g.pc = .ok (.invokestatic index, 3))
    (hpre : ∀ vm₁, s.WarmedH vm₁ → Pre ⟨T.setVm vm₁, locs, cells, slots⟩ argsL.toArray) :
    (∃ (v : Option Value) (vm₁ : Vm) (B : Pt), s.WarmedH vm₁ ∧ Stand p l e R s m args below meth c B.U B.locs B.cells B.slots ∧ Post ⟨T.setVm vm₁, locs, cells, slots⟩ argsL.toArray v B ∧
      ∀ target, Steps p.tables e below (B.U.setTop { g with pc := g.pc + 3, stack := v.toList ++ rest }) target → Steps p.tables e below (T.setTop g) target) ∨
    (∃ (q : Addr) (vm₁ : Vm) (B : Pt), s.WarmedH vm₁ ∧ Stand p l e R s m args below meth c B.U B.locs B.cells B.slots ∧ PostX ⟨T.setVm vm₁, locs, cells, slots⟩ argsL.toArray q B ∧
      Steps p.tables e below (T.setTop g) ((B.U.setTop { g with stack := rest }).pushFrame (.throwing q))) := by
  obtain ⟨mk, hnamed⟩ := Cond.code_named hcode
  obtain ⟨methM, cM, hmethM, -, -, -, -, -, -, hsigM⟩ := Cond.code_spec hnamed hcode
  have hstatic : methM.isStatic = true := Cond.static_spec hnamed hmethM hstat
  obtain ⟨kP, hkP, -⟩ := className_of_methodNamed hnamed
  have hinitP : kP.init = .initialized := Cond.initialized_spec (findClass_of_methodNamed hnamed) hkP hinit
  obtain ⟨vm₁, X₁, hstep₁⟩ := X.invokestatic hexec hown hlink hnamed hmethM hstatic hkP hinitP hy (g := g) hg (argsL := argsL) (rest := rest) (hlen _ hsigM) hstack hdg
  rcases hK m meth c ⟨T.setVm vm₁, locs, cells, slots⟩ { g with stack := rest } (.invokestatic index) mk argsL.toArray X₁ hg hsize hdg hW (X₁.named hnamed) (hpre vm₁ X₁.warmed) with ⟨v, B, X', hpost, hsteps⟩ | ⟨q, B, X', hpost, hsteps⟩
  · exact Or.inl ⟨v, vm₁, B, X₁.warmed, X', hpost, fun target h => hstep₁ _ fun acts => by rw [doInvoke_state]; exact hsteps.trans h⟩
  · exact Or.inr ⟨q, vm₁, B, X₁.warmed, X', hpost, hstep₁ _ fun acts => by rw [doInvoke_state]; exact hsteps⟩
end Calls
theorem vx_cls {s : State} {T : State} {vm₁ : Vm} {E : String} {k : ClassId} (hW : s.WarmedH vm₁) (h : (T.setVm vm₁).vm.findClass E = some k) : s.vm.findClass E = some k := by
  have h1 : vm₁.findClass E = some k := h
  rw [hW.alike.findClass] at h1
  exact h1
/-- the method's frame g, with q thrown over it -/
def vx_W (p : Program) (l : Launch) (e : Env) (R : Room) (s : State) (m : MethodId) (args : Array Value) (below : List Frame) (meth : Method) (c : Code) (H : Heap) (locs : List Loc) (cells slots : Nat) (Q : State → Prop) (g : JFrame) (q : Addr) : Prop :=
  ∀ T : State, T.heap = H → Stand p l e R s m args below meth c T locs cells slots → ∃ t, Steps p.tables e below ((T.setTop g).pushFrame (.throwing q)) t ∧ Q t
def vx_Run (p : Program) (l : Launch) (e : Env) (R : Room) (s : State) (m : MethodId) (args : Array Value) (below : List Frame) (meth : Method) (c : Code) (H : Heap) (locs : List Loc) (cells slots mc ms : Nat) (g : JFrame) (rest : List Value) (Qa : State → Outcome → State → Prop) (XC : String → State → State → Prop) (free : Addr → Prop) : Prop :=
  ∀ T : State, T.heap = H → Stand p l e R s m args below meth c T locs cells slots →
    (∃ (v : Option Value) (st₀ t T' : State) (L : List Loc), st₀.heap = H ∧ Stand p l e R s m args below meth c T' (locs ++ L) (cells + mc) (slots + ms) ∧ (∀ q ∈ L, free q.base) ∧ T'.heap = t.heap ∧ T'.vm = t.vm ∧ Qa st₀ (.returned v) t ∧
      Goes p e below T g T' { g with pc := g.pc + 3, stack := v.toList ++ rest }) ∨
    (∃ (q : Addr) (st₀ t T' : State) (L : List Loc) (E : String) (ce : Cell), st₀.heap = H ∧ Stand p l e R s m args below meth c T' (locs ++ L) (cells + mc) (slots + ms) ∧ (∀ z ∈ L, free z.base) ∧ T'.heap = t.heap ∧ T'.vm = t.vm ∧ XC E st₀ t ∧ t.heap[q]? = some ce ∧ ce.vm = .none ∧ s.vm.findClass E = some ce.cls ∧
      Steps p.tables e below (T.setTop g) ((T'.setTop { g with stack := rest }).pushFrame (.throwing q)))
def vx_X {S : Type} (px : S → Prop) (B : String → S → State → Prop) (A : Nat → Prop) : String → State → State → Prop := fun E st t => ∃ u : S, px u ∧ B E u t ∧ va_F A st t
section Runs
variable {p : Program} {l : Launch} {e : Env} {R : Room} {s : State} {m : MethodId} {args : Array Value} {below : List Frame} {meth : Method} {c : Code} {H : Heap} {locs : List Loc} {cells slots : Nat}
variable {y : MethodName} {bytes cc : ByteArray} {maxL nL mc ms n index : Nat} {ret : Option FieldType} {ws : List Cond} {rm : Room} {Pc : Array Value → State → Prop} {Qc : Array Value → State → Outcome → State → Prop} {XC : String → State → State → Prop} {free : Addr → Prop} {Ts : List Cond} {own C : String} {b : Addr} {As rest : List Value} {g : JFrame}
theorem vx_callBack (cb : CallB R s args own index y bytes maxL ret ws rm mc ms n) (hM : vx_Met l y ws rm Pc Qc XC mc ms free) (hbl : FrameBlind Pc) : vx_Back l R p e below s args y 3 8 (PreOf R mc ms Pc) (PostOf Qc mc ms free) (vx_Post XC mc ms free) := by
  obtain ⟨hrc, hrs, hfr, hlo, hws, hcw, -, hini, -⟩ := cb
  exact vx_back (bytes := bytes) (maxL := maxL) (ret := ret) hM hbl hrc hrs hfr hlo hws hcw (fun a' U hW => word_at hW (Or.inl (by first | rfl | simp [Cond.onTables, Cond.keeps, Cond.steady])) hini)
theorem vx_runV (S : CallFix p m c cc nL s args Ts own) (hM : vx_Met l y ws rm Pc Qc XC mc ms free) (cw : CallW R s args own C index y bytes maxL ret ws rm mc ms n) (hp : PreV s H C b Pc As)
    (hg : g.method = m) (hn : As.length = n) (hsize : g.locals.size = nL) (hstack : g.stack = As.reverse ++ .ref b :: rest) (hW : 2 * g.monitorRoom + (rest.map fun v => v.category).sum ≤ 8) (hdg : decode cc g.pc = .ok (.invokevirtual index, 3)) (hf : cells + mc ≤ R.cells ∧ slots + ms ≤ R.slots) :
    vx_Run p l e R s m args below meth c H locs cells slots mc ms g rest (Qc (Value.ref b :: As).toArray) XC free := by
  have hK : vx_Back l R p e below s args y 3 8 (PreOf R mc ms Pc) (PostOf Qc mc ms free) (vx_Post XC mc ms free) := vx_callBack cw.1 hM hp.1
  obtain ⟨⟨-, -, -, -, -, -, hcode, -, hy, hlen, hl⟩, hin, hse⟩ := cw
  obtain ⟨hx, hb, hml, ho, -⟩ := S
  obtain ⟨-, ⟨cellB, hcB, hoB, hclB⟩, hPc⟩ := hp
  intro T hT X
  rcases vx_callV X hx (C := C) (bytes := bytes) (maxL := maxL) (ret := ret) ho hl hin hse hcode hy hK (by rw [hT]; exact hcB) hoB hclB hg (hsize.trans hml.symm) (argsL := As) (rest := rest) (fun sig h => hn.trans (hlen sig h)) hstack hW (by rw [hb]; exact hdg)
    (fun vm₁ hW₁ => ⟨hf.1, hf.2, hPc (T.setVm vm₁) hT hW₁⟩) with ⟨v, vm₁, ⟨U', l2, c2, s2⟩, hW₁, X', ⟨g', mk, t, L, e1, e2, hq, h1, hL, h2, h3⟩, st⟩ | ⟨q, vm₁, ⟨U', l2, c2, s2⟩, hW₁, X', ⟨g', mk, t, L, E, ce, e1, e2, hq, hce, hcv, hcl, h1, hL, h2, h3⟩, st⟩
  · dsimp only [Pt.U, Pt.locs, Pt.cells, Pt.slots] at X' e1 e2 h1 h2 h3 st
    subst h1; subst h2; subst h3
    exact Or.inl ⟨v, (T.setVm vm₁).calling g' mk (Value.ref b :: As).toArray, t, U', L, hT, X', hL, e1, e2, hq, st⟩
  · dsimp only [Pt.U, Pt.locs, Pt.cells, Pt.slots] at X' e1 e2 h1 h2 h3 st hcl
    subst h1; subst h2; subst h3
    exact Or.inr ⟨q, (T.setVm vm₁).calling g' mk (Value.ref b :: As).toArray, t, U', L, E, ce, hT, X', hL, e1, e2, hq, hce, hcv, vx_cls hW₁ hcl, st⟩
theorem vx_runS (S : CallFix p m c cc nL s args Ts own) (hM : vx_Met l y ws rm Pc Qc XC mc ms free) (cw : CallB R s args own index y bytes maxL ret ws rm mc ms n ∧ (Cond.static y).before args s = true) (hp : PreS s H Pc As)
    (hg : g.method = m) (hn : As.length = n) (hsize : g.locals.size = nL) (hstack : g.stack = As.reverse ++ rest) (hW : 2 * g.monitorRoom + (rest.map fun v => v.category).sum ≤ 8) (hdg : decode cc g.pc = .ok (.invokestatic index, 3)) (hf : cells + mc ≤ R.cells ∧ slots + ms ≤ R.slots) :
    vx_Run p l e R s m args below meth c H locs cells slots mc ms g rest (Qc As.toArray) XC free := by
  have hK : vx_Back l R p e below s args y 3 8 (PreOf R mc ms Pc) (PostOf Qc mc ms free) (vx_Post XC mc ms free) := vx_callBack cw.1 hM hp.1
  obtain ⟨⟨-, -, -, -, -, -, hcode, hini, hy, hlen, hl⟩, hstt⟩ := cw
  obtain ⟨hx, hb, hml, ho, -⟩ := S
  intro T hT X
  rcases vx_callS X hx (bytes := bytes) (maxL := maxL) (ret := ret) ho hl hstt hini hcode hy hK hg (hsize.trans hml.symm) (argsL := As) (rest := rest) (fun sig h => hn.trans (hlen sig h)) hstack hW (by rw [hb]; exact hdg)
    (fun vm₁ hW₁ => ⟨hf.1, hf.2, hp.2 (T.setVm vm₁) hT hW₁⟩) with ⟨v, vm₁, ⟨U', l2, c2, s2⟩, hW₁, X', ⟨g', mk, t, L, e1, e2, hq, h1, hL, h2, h3⟩, st⟩ | ⟨q, vm₁, ⟨U', l2, c2, s2⟩, hW₁, X', ⟨g', mk, t, L, E, ce, e1, e2, hq, hce, hcv, hcl, h1, hL, h2, h3⟩, st⟩
  · dsimp only [Pt.U, Pt.locs, Pt.cells, Pt.slots] at X' e1 e2 h1 h2 h3 st
    subst h1; subst h2; subst h3
    exact Or.inl ⟨v, (T.setVm vm₁).calling g' mk As.toArray, t, U', L, hT, X', hL, e1, e2, hq, st⟩
  · dsimp only [Pt.U, Pt.locs, Pt.cells, Pt.slots] at X' e1 e2 h1 h2 h3 st hcl
    subst h1; subst h2; subst h3
    exact Or.inr ⟨q, (T.setVm vm₁).calling g' mk As.toArray, t, U', L, E, ce, hT, X', hL, e1, e2, hq, hce, hcv, vx_cls hW₁ hcl, st⟩
end Runs
section Rows
variable {p : Program} {l : Launch} {e : Env} {R : Room} {s : State} {m : MethodId} {args : Array Value} {below : List Frame} {meth : Method} {c : Code} {H : Heap} {locs : List Loc} {cells slots : Nat} {Q : State → Prop}
variable {mc ms : Nat} {free : Addr → Prop} {A0 A1 : Nat → Prop} {H0 : Heap} {a : Array Value} {pc : Nat} {ls : Array Slot} {st0 rest : List Value}
theorem vx_keep {st₀ t T' : State} {L : List Loc} (h0 : st₀.heap = H) (e1 : T'.heap = t.heap) (hS : va_S A0 H0 H locs) (hA : ∀ q, q < H.size → A1 q → A0 q) (hf : ∀ q, free q → A0 q) (hL : ∀ q ∈ L, free q.base) (hF : va_F A1 st₀ t) :
    H.size ≤ T'.heap.size ∧ (∀ q : Nat, q < H.size → ¬ A1 q → T'.heap[q]? = H[q]?) ∧ va_S A0 H0 T'.heap (locs ++ L) := by
  obtain ⟨hz, hk⟩ := hF
  rw [h0] at hz hk
  exact ⟨by rw [e1]; exact hz, fun q h1 h2 => by rw [e1]; exact hk q h1 h2,
    ⟨Nat.le_trans hS.1 (by rw [e1]; exact hz), fun q h1 h2 => by rw [e1, hk q (Nat.lt_of_lt_of_le h1 hS.1) (fun z => h2 (hA q (Nat.lt_of_lt_of_le h1 hS.1) z))]; exact hS.2.1 q h1 h2, fun q hq => by
      rcases List.mem_append.mp hq with h | h
      · exact hS.2.2 q h
      · exact hf _ (hL q h)⟩⟩
theorem vx_calli {S SX : Type} {post : Int32 → S → Prop} {px : SX → Prop} {B : S → State → Prop} {BX : String → SX → State → Prop} {AX : Nat → Prop} (hr : vx_Run p l e R s m args below meth c H locs cells slots mc ms (F0 m pc ls st0) rest (va_Qi post B A1 a) (vx_X px BX AX) free) (hS : va_S A0 H0 H locs) (hA : ∀ q, q < H.size → A1 q → A0 q) (hf : ∀ q, free q → A0 q) (hAX : ∀ q, q < H.size → AX q → A0 q)
    (kx : ∀ (E : String) (ce : Cell) (q9 : Addr) (u : SX) (t : State) (H1 : Heap) (locs1 : List Loc), t.heap = H1 → s.vm.Alike t.vm → px u → BX E u t → H.size ≤ H1.size → (∀ q : Nat, q < H.size → ¬ AX q → H1[q]? = H[q]?) → va_S A0 H0 H1 locs1 → H1[q9]? = some ce → ce.vm = .none → s.vm.findClass E = some ce.cls → vx_W p l e R s m args below meth c H1 locs1 (cells + mc) (slots + ms) Q (F0 m pc ls rest) q9)
    (kk : ∀ (r : Int32) (u : S) (t : State) (H1 : Heap) (locs1 : List Loc), t.heap = H1 → s.vm.Alike t.vm → post r u → B u t → H.size ≤ H1.size → (∀ q : Nat, q < H.size → ¬ A1 q → H1[q]? = H[q]?) → va_S A0 H0 H1 locs1 → W p l e R s m args below meth c H1 locs1 (cells + mc) (slots + ms) Q (F0 m (pc + 3) ls (.int r :: rest))) : W p l e R s m args below meth c H locs cells slots Q (F0 m pc ls st0) := by
  intro T hT X
  rcases hr T hT X with ⟨v, st₀, t, T', L, h0, X', hL, e1, e2, ⟨⟨r, u, hv, hp, hb⟩, hF⟩, st⟩ | ⟨q, st₀, t, T', L, E, ce, h0, X', hL, e1, e2, ⟨u, hp, hb, hF⟩, hce, hcv, hcl, st⟩
  · cases hv
    obtain ⟨k1, k2, k3⟩ := vx_keep h0 e1 hS hA hf hL hF
    obtain ⟨t2, a1, b1⟩ := kk r u t T'.heap (locs ++ L) e1.symm (by rw [← e2]; exact X'.warmed.alike) hp hb k1 k2 k3 T' rfl X'
    exact ⟨t2, st t2 a1, b1⟩
  · obtain ⟨k1, k2, k3⟩ := vx_keep h0 e1 hS hAX hf hL hF
    obtain ⟨t2, a1, b1⟩ := kx E ce q u t T'.heap (locs ++ L) e1.symm (by rw [← e2]; exact X'.warmed.alike) hp hb k1 k2 k3 (by rw [e1]; exact hce) hcv hcl T' rfl X'
    exact ⟨t2, st.trans a1, b1⟩
theorem vx_calll {S SX : Type} {post : Int64 → S → Prop} {px : SX → Prop} {B : S → State → Prop} {BX : String → SX → State → Prop} {AX : Nat → Prop} (hr : vx_Run p l e R s m args below meth c H locs cells slots mc ms (F0 m pc ls st0) rest (va_Ql post B A1 a) (vx_X px BX AX) free) (hS : va_S A0 H0 H locs) (hA : ∀ q, q < H.size → A1 q → A0 q) (hf : ∀ q, free q → A0 q) (hAX : ∀ q, q < H.size → AX q → A0 q)
    (kx : ∀ (E : String) (ce : Cell) (q9 : Addr) (u : SX) (t : State) (H1 : Heap) (locs1 : List Loc), t.heap = H1 → s.vm.Alike t.vm → px u → BX E u t → H.size ≤ H1.size → (∀ q : Nat, q < H.size → ¬ AX q → H1[q]? = H[q]?) → va_S A0 H0 H1 locs1 → H1[q9]? = some ce → ce.vm = .none → s.vm.findClass E = some ce.cls → vx_W p l e R s m args below meth c H1 locs1 (cells + mc) (slots + ms) Q (F0 m pc ls rest) q9)
    (kk : ∀ (r : Int64) (u : S) (t : State) (H1 : Heap) (locs1 : List Loc), t.heap = H1 → s.vm.Alike t.vm → post r u → B u t → H.size ≤ H1.size → (∀ q : Nat, q < H.size → ¬ A1 q → H1[q]? = H[q]?) → va_S A0 H0 H1 locs1 → W p l e R s m args below meth c H1 locs1 (cells + mc) (slots + ms) Q (F0 m (pc + 3) ls (.long r :: rest))) : W p l e R s m args below meth c H locs cells slots Q (F0 m pc ls st0) := by
  intro T hT X
  rcases hr T hT X with ⟨v, st₀, t, T', L, h0, X', hL, e1, e2, ⟨⟨r, u, hv, hp, hb⟩, hF⟩, st⟩ | ⟨q, st₀, t, T', L, E, ce, h0, X', hL, e1, e2, ⟨u, hp, hb, hF⟩, hce, hcv, hcl, st⟩
  · cases hv
    obtain ⟨k1, k2, k3⟩ := vx_keep h0 e1 hS hA hf hL hF
    obtain ⟨t2, a1, b1⟩ := kk r u t T'.heap (locs ++ L) e1.symm (by rw [← e2]; exact X'.warmed.alike) hp hb k1 k2 k3 T' rfl X'
    exact ⟨t2, st t2 a1, b1⟩
  · obtain ⟨k1, k2, k3⟩ := vx_keep h0 e1 hS hAX hf hL hF
    obtain ⟨t2, a1, b1⟩ := kx E ce q u t T'.heap (locs ++ L) e1.symm (by rw [← e2]; exact X'.warmed.alike) hp hb k1 k2 k3 (by rw [e1]; exact hce) hcv hcl T' rfl X'
    exact ⟨t2, st.trans a1, b1⟩
theorem vx_callf {S SX : Type} {post : UInt32 → S → Prop} {px : SX → Prop} {B : S → State → Prop} {BX : String → SX → State → Prop} {AX : Nat → Prop} (hr : vx_Run p l e R s m args below meth c H locs cells slots mc ms (F0 m pc ls st0) rest (va_Qf post B A1 a) (vx_X px BX AX) free) (hS : va_S A0 H0 H locs) (hA : ∀ q, q < H.size → A1 q → A0 q) (hf : ∀ q, free q → A0 q) (hAX : ∀ q, q < H.size → AX q → A0 q)
    (kx : ∀ (E : String) (ce : Cell) (q9 : Addr) (u : SX) (t : State) (H1 : Heap) (locs1 : List Loc), t.heap = H1 → s.vm.Alike t.vm → px u → BX E u t → H.size ≤ H1.size → (∀ q : Nat, q < H.size → ¬ AX q → H1[q]? = H[q]?) → va_S A0 H0 H1 locs1 → H1[q9]? = some ce → ce.vm = .none → s.vm.findClass E = some ce.cls → vx_W p l e R s m args below meth c H1 locs1 (cells + mc) (slots + ms) Q (F0 m pc ls rest) q9)
    (kk : ∀ (r : UInt32) (u : S) (t : State) (H1 : Heap) (locs1 : List Loc), t.heap = H1 → s.vm.Alike t.vm → post r u → B u t → H.size ≤ H1.size → (∀ q : Nat, q < H.size → ¬ A1 q → H1[q]? = H[q]?) → va_S A0 H0 H1 locs1 → W p l e R s m args below meth c H1 locs1 (cells + mc) (slots + ms) Q (F0 m (pc + 3) ls (.float r :: rest))) : W p l e R s m args below meth c H locs cells slots Q (F0 m pc ls st0) := by
  intro T hT X
  rcases hr T hT X with ⟨v, st₀, t, T', L, h0, X', hL, e1, e2, ⟨⟨r, u, hv, hp, hb⟩, hF⟩, st⟩ | ⟨q, st₀, t, T', L, E, ce, h0, X', hL, e1, e2, ⟨u, hp, hb, hF⟩, hce, hcv, hcl, st⟩
  · cases hv
    obtain ⟨k1, k2, k3⟩ := vx_keep h0 e1 hS hA hf hL hF
    obtain ⟨t2, a1, b1⟩ := kk r u t T'.heap (locs ++ L) e1.symm (by rw [← e2]; exact X'.warmed.alike) hp hb k1 k2 k3 T' rfl X'
    exact ⟨t2, st t2 a1, b1⟩
  · obtain ⟨k1, k2, k3⟩ := vx_keep h0 e1 hS hAX hf hL hF
    obtain ⟨t2, a1, b1⟩ := kx E ce q u t T'.heap (locs ++ L) e1.symm (by rw [← e2]; exact X'.warmed.alike) hp hb k1 k2 k3 (by rw [e1]; exact hce) hcv hcl T' rfl X'
    exact ⟨t2, st.trans a1, b1⟩
theorem vx_calld {S SX : Type} {post : UInt64 → S → Prop} {px : SX → Prop} {B : S → State → Prop} {BX : String → SX → State → Prop} {AX : Nat → Prop} (hr : vx_Run p l e R s m args below meth c H locs cells slots mc ms (F0 m pc ls st0) rest (va_Qd post B A1 a) (vx_X px BX AX) free) (hS : va_S A0 H0 H locs) (hA : ∀ q, q < H.size → A1 q → A0 q) (hf : ∀ q, free q → A0 q) (hAX : ∀ q, q < H.size → AX q → A0 q)
    (kx : ∀ (E : String) (ce : Cell) (q9 : Addr) (u : SX) (t : State) (H1 : Heap) (locs1 : List Loc), t.heap = H1 → s.vm.Alike t.vm → px u → BX E u t → H.size ≤ H1.size → (∀ q : Nat, q < H.size → ¬ AX q → H1[q]? = H[q]?) → va_S A0 H0 H1 locs1 → H1[q9]? = some ce → ce.vm = .none → s.vm.findClass E = some ce.cls → vx_W p l e R s m args below meth c H1 locs1 (cells + mc) (slots + ms) Q (F0 m pc ls rest) q9)
    (kk : ∀ (r : UInt64) (u : S) (t : State) (H1 : Heap) (locs1 : List Loc), t.heap = H1 → s.vm.Alike t.vm → post r u → B u t → H.size ≤ H1.size → (∀ q : Nat, q < H.size → ¬ A1 q → H1[q]? = H[q]?) → va_S A0 H0 H1 locs1 → W p l e R s m args below meth c H1 locs1 (cells + mc) (slots + ms) Q (F0 m (pc + 3) ls (.double r :: rest))) : W p l e R s m args below meth c H locs cells slots Q (F0 m pc ls st0) := by
  intro T hT X
  rcases hr T hT X with ⟨v, st₀, t, T', L, h0, X', hL, e1, e2, ⟨⟨r, u, hv, hp, hb⟩, hF⟩, st⟩ | ⟨q, st₀, t, T', L, E, ce, h0, X', hL, e1, e2, ⟨u, hp, hb, hF⟩, hce, hcv, hcl, st⟩
  · cases hv
    obtain ⟨k1, k2, k3⟩ := vx_keep h0 e1 hS hA hf hL hF
    obtain ⟨t2, a1, b1⟩ := kk r u t T'.heap (locs ++ L) e1.symm (by rw [← e2]; exact X'.warmed.alike) hp hb k1 k2 k3 T' rfl X'
    exact ⟨t2, st t2 a1, b1⟩
  · obtain ⟨k1, k2, k3⟩ := vx_keep h0 e1 hS hAX hf hL hF
    obtain ⟨t2, a1, b1⟩ := kx E ce q u t T'.heap (locs ++ L) e1.symm (by rw [← e2]; exact X'.warmed.alike) hp hb k1 k2 k3 (by rw [e1]; exact hce) hcv hcl T' rfl X'
    exact ⟨t2, st.trans a1, b1⟩
theorem vx_callv {S SX : Type} {post : S → Prop} {px : SX → Prop} {B : S → State → Prop} {BX : String → SX → State → Prop} {AX : Nat → Prop} (hr : vx_Run p l e R s m args below meth c H locs cells slots mc ms (F0 m pc ls st0) rest (va_Qv post B A1 a) (vx_X px BX AX) free) (hS : va_S A0 H0 H locs) (hA : ∀ q, q < H.size → A1 q → A0 q) (hf : ∀ q, free q → A0 q) (hAX : ∀ q, q < H.size → AX q → A0 q)
    (kx : ∀ (E : String) (ce : Cell) (q9 : Addr) (u : SX) (t : State) (H1 : Heap) (locs1 : List Loc), t.heap = H1 → s.vm.Alike t.vm → px u → BX E u t → H.size ≤ H1.size → (∀ q : Nat, q < H.size → ¬ AX q → H1[q]? = H[q]?) → va_S A0 H0 H1 locs1 → H1[q9]? = some ce → ce.vm = .none → s.vm.findClass E = some ce.cls → vx_W p l e R s m args below meth c H1 locs1 (cells + mc) (slots + ms) Q (F0 m pc ls rest) q9)
    (kk : ∀ (u : S) (t : State) (H1 : Heap) (locs1 : List Loc), t.heap = H1 → s.vm.Alike t.vm → post u → B u t → H.size ≤ H1.size → (∀ q : Nat, q < H.size → ¬ A1 q → H1[q]? = H[q]?) → va_S A0 H0 H1 locs1 → W p l e R s m args below meth c H1 locs1 (cells + mc) (slots + ms) Q (F0 m (pc + 3) ls (rest))) : W p l e R s m args below meth c H locs cells slots Q (F0 m pc ls st0) := by
  intro T hT X
  rcases hr T hT X with ⟨v, st₀, t, T', L, h0, X', hL, e1, e2, ⟨⟨u, hv, hp, hb⟩, hF⟩, st⟩ | ⟨q, st₀, t, T', L, E, ce, h0, X', hL, e1, e2, ⟨u, hp, hb, hF⟩, hce, hcv, hcl, st⟩
  · cases hv
    obtain ⟨k1, k2, k3⟩ := vx_keep h0 e1 hS hA hf hL hF
    obtain ⟨t2, a1, b1⟩ := kk u t T'.heap (locs ++ L) e1.symm (by rw [← e2]; exact X'.warmed.alike) hp hb k1 k2 k3 T' rfl X'
    exact ⟨t2, st t2 a1, b1⟩
  · obtain ⟨k1, k2, k3⟩ := vx_keep h0 e1 hS hAX hf hL hF
    obtain ⟨t2, a1, b1⟩ := kx E ce q u t T'.heap (locs ++ L) e1.symm (by rw [← e2]; exact X'.warmed.alike) hp hb k1 k2 k3 (by rw [e1]; exact hce) hcv hcl T' rfl X'
    exact ⟨t2, st.trans a1, b1⟩
end Rows
section Ends
variable {p : Program} {l : Launch} {e : Env} {R : Room} {s : State} {m : MethodId} {args : Array Value} {below : List Frame} {meth : Method} {c : Code} {H : Heap} {locs : List Loc} {cells slots : Nat} {Q : State → Prop}
variable {mc ms : Nat} {free : Addr → Prop} {A0 A1 : Nat → Prop} {H0 : Heap} {a : Array Value} {ls : Array Slot} {st0 rest : List Value}
variable {Qc : Array Value → State → Outcome → State → Prop} {XC : String → State → State → Prop}
/-- what a body that may throw owes at its end -/
def vx_MQ (below : List Frame) (Qc : Array Value → State → Outcome → State → Prop) (XC : String → State → State → Prop) (a : Array Value) (s : State) (mc ms : Nat) (free : Addr → Prop) : State → Prop := fun t =>
  ∃ o, t.status = .running ∧ Ended t below o ∧ vx_Q Qc XC mc ms free a s o t
theorem vx_ret {g : JFrame} {mc ms : Nat} (k : W p l e R s m args below meth c H locs cells slots (MQ below Qc args s mc ms free) g) : W p l e R s m args below meth c H locs cells slots (vx_MQ below Qc XC args s mc ms free) g := by
  intro T hT X
  obtain ⟨t, a1, o, b1, b2, b3, b4⟩ := k T hT X
  exact ⟨t, a1, o, b1, b2, Or.inl ⟨b3, b4⟩⟩
/-- not caught here: it goes on to the caller -/
theorem vx_widen {g : JFrame} {q : Addr} {k n : Nat} (h1 : cells ≤ k) (h2 : slots ≤ n) (kk : vx_W p l e R s m args below meth c H locs k n Q g q) : vx_W p l e R s m args below meth c H locs cells slots Q g q := fun T hT X => kk T hT (stand_widen X h1 h2)
theorem vx_out {pc : Nat} {E : String} {ce : Cell} {q : Addr} {mc ms : Nat} (hout : ∀ x ∈ c.exceptionTable.toList, covers x pc = false) (hlocks : meth.locks = false) (hcell : H[q]? = some ce) (hv : ce.vm = .none) (hcl : s.vm.findClass E = some ce.cls)
    (hx : ∀ t : State, t.heap = H → s.vm.Alike t.vm → XC E s t) (hf : ∀ z ∈ locs, free z.base) (hc : cells ≤ mc) (hs : slots ≤ ms) :
    vx_W p l e R s m args below meth c H locs cells slots (vx_MQ below Qc XC args s mc ms free) (F0 m pc ls rest) q := by
  intro T hT X
  obtain ⟨st1, hrun, hend, hW, hsm⟩ := X.leaveThrown q (g := F0 m pc ls rest) rfl rfl rfl hout hlocks
  have hcell9 : (T.setFrames (.throwing q :: below)).heap[q]? = some ce := by
    show T.heap[q]? = some ce
    rw [hT]; exact hcell
  exact ⟨_, st1, .threw q, hrun, hend, Or.inr ⟨q, rfl, E, ce, locs, hx _ hT hW.alike, hcell9, hv, hcl, hW, hsm.mono hc hs, hf⟩⟩
theorem vx_frame {U : State} {k n : Nat} (h : s.sameButNew ({ U with vm := s.vm } : State) locs k n) : s.heap.size ≤ U.heap.size ∧ ∀ q : Nat, q < s.heap.size → (∀ z ∈ locs, z.base ≠ q) → U.heap[q]? = s.heap[q]? := by
  obtain ⟨-, h2, -, -, -, h6⟩ := h
  refine ⟨h2, fun q hq hz => ?_⟩
  obtain ⟨c9, e1, e2, e3, e4⟩ := h6 q _ (Array.getElem?_eq_getElem hq)
  have hs : c9.slots = (s.heap[q]).slots := Array.ext_getElem? fun i => e4 i fun hm => hz _ hm rfl
  have h9 : c9 = s.heap[q] := by
    rw [hs] at e2
    exact e2
  have e5 : U.heap[q]? = some c9 := e1
  rw [e5, h9, Array.getElem?_eq_getElem hq]
/-- the words of a throw but the four that speak of the heap -/
def vx_no (w : Cond) : Bool := decide (w ≠ .isRef (.static Bundle.tN "UNASSIGNED_STACK" Bundle.steD)) && decide (w ≠ .isRef (.static Bundle.tN "SUPPRESSED_SENTINEL" Bundle.listD)) && decide (w ≠ .laysStatic Bundle.tN "UNASSIGNED_STACK" Bundle.steD) && decide (w ≠ .laysStatic Bundle.tN "SUPPRESSED_SENTINEL" Bundle.listD)
def vx_at0 (own : String) (ic : Nat) (X : String) (names : List String) : List Cond := (Bundle.ownAtoms0 own ic X names).filter vx_no
def vx_atS (own : String) (ic : Nat) (X : String) (names : List String) : List Cond := (Bundle.ownAtoms own ic X names).filter vx_no
/-- a word that the tables alone decide, or a good one -/
def vx_ot (w : Cond) : Bool := w.onTables || goodWord w
theorem vx_ot_at {args a' : Array Value} {s U : State} {w : Cond} (hW : s.WarmedH U.vm) (hvm : s.vm = U.vm) (hg : vx_ot w = true) (h : w.before args s = true) : w.before a' U = true := by
  simp only [vx_ot, Bool.or_eq_true] at hg
  rcases hg with hg | hg
  · exact va_tabs hg hvm h
  · exact word_at hW (good_of_word hg) h
/-- a list's words: the good ones out of the method's own list, the others by premises of their own -/
theorem vx_hat {args : Array Value} {s : State} {L B : List Cond} (h1 : ∀ w ∈ L.filter goodWord, w.before args s = true) (h2 : ∀ w ∈ L.filter (fun w => !goodWord w), w ∈ B) (h3 : ∀ w ∈ B, w.before args s = true) : ∀ w ∈ L, w.before args s = true := by
  intro w hw
  by_cases g : goodWord w = true
  · exact h1 w (List.mem_filter.mpr ⟨hw, g⟩)
  · refine h3 w (h2 w (List.mem_filter.mpr ⟨hw, ?_⟩))
    show (!goodWord w) = true
    cases hgw : goodWord w
    · rfl
    · exact absurd hgw g
theorem vx_c {args : Array Value} {s : State} {w : Cond} {B : List Cond} (h : w.before args s = true) (t : ∀ w ∈ B, w.before args s = true) : ∀ w' ∈ w :: B, w'.before args s = true := fun w' h' => (List.mem_cons.mp h').elim (fun e => by rw [e]; exact h) (t w')
theorem vx_n {args : Array Value} {s : State} : ∀ w ∈ ([] : List Cond), w.before args s = true := fun _ h => nomatch h
theorem vx_own {args : Array Value} {s : State} {L : List Cond} (h1 : ∀ w ∈ L.filter vx_no, w.before args s = true)
    (hU : (Cond.isRef (.static Bundle.tN "UNASSIGNED_STACK" Bundle.steD)).before args s = true) (hN : (Cond.isRef (.static Bundle.tN "SUPPRESSED_SENTINEL" Bundle.listD)).before args s = true)
    (lU : (Cond.laysStatic Bundle.tN "UNASSIGNED_STACK" Bundle.steD).before args s = true) (lN : (Cond.laysStatic Bundle.tN "SUPPRESSED_SENTINEL" Bundle.listD).before args s = true) : ∀ w ∈ L, w.before args s = true := by
  intro w hw
  by_cases e1 : w = .isRef (.static Bundle.tN "UNASSIGNED_STACK" Bundle.steD)
  · rw [e1]; exact hU
  · by_cases e2 : w = .isRef (.static Bundle.tN "SUPPRESSED_SENTINEL" Bundle.listD)
    · rw [e2]; exact hN
    · by_cases e3 : w = .laysStatic Bundle.tN "UNASSIGNED_STACK" Bundle.steD
      · rw [e3]; exact lU
      · by_cases e4 : w = .laysStatic Bundle.tN "SUPPRESSED_SENTINEL" Bundle.listD
        · rw [e4]; exact lN
        · exact h1 w (List.mem_filter.mpr ⟨hw, by unfold vx_no; rw [decide_eq_true e1, decide_eq_true e2, decide_eq_true e3, decide_eq_true e4]; rfl⟩)
/-- where a static field lies, its class's statics cell in H -/
def vx_L (C n d : String) (A : Nat → Prop) (U : State) (H : Heap) : Prop := ∃ (c : ClassId) (k : Class) (i : Nat) (f : Field) (a : Nat) (cell : Cell), U.vm.findClass C = some c ∧ U.fieldFound? C n d = some (c, k, i, f) ∧ f.isStatic = true ∧ k.statics = some a ∧ H[a]? = some cell ∧ cell.vm.isStatics = true ∧ cell.cls = c ∧ f.slot < cell.slots.size ∧ k.staticTypes[f.slot]? = some f.type ∧ ¬ A a
theorem vx_L.moved {C n d : String} {A : Nat → Prop} {u U : State} {H : Heap} (hvm : u.vm.Alike U.vm) (h : vx_L C n d A u H) : vx_L C n d A U H := by
  obtain ⟨c, k, i, f, a, cell, h1, h2, h3, h4, h5, h6, h7, h8, h9, h10⟩ := h
  obtain ⟨k', hi', he⟩ := State.fieldFound?_setVm hvm h2
  exact ⟨c, k', i, f, a, cell, by rw [hvm.findClass]; exact h1, hi', h3, by rw [he]; exact h4, h5, h6, h7, h8, by rw [he]; exact h9, h10⟩
theorem vx_L.kept {C n d : String} {A : Nat → Prop} {U : State} {H H1 : Heap} (h : vx_L C n d A U H) (hq : ∀ a : Nat, a < H.size → ¬ A a → H1[a]? = H[a]?) : vx_L C n d A U H1 := by
  obtain ⟨c, k, i, f, a, cell, h1, h2, h3, h4, h5, h6, h7, h8, h9, h10⟩ := h
  exact ⟨c, k, i, f, a, cell, h1, h2, h3, h4, by rw [hq a (Array.getElem?_eq_some_iff.mp h5).1 h10]; exact h5, h6, h7, h8, h9, h10⟩
theorem vx_L.narrow {C n d : String} {A B : Nat → Prop} {U : State} {H : Heap} (h : vx_L C n d A U H) (hAB : ∀ q, B q → A q) : vx_L C n d B U H := by
  obtain ⟨c, k, i, f, a, cell, h1, h2, h3, h4, h5, h6, h7, h8, h9, h10⟩ := h
  exact ⟨c, k, i, f, a, cell, h1, h2, h3, h4, h5, h6, h7, h8, h9, fun z => h10 (hAB _ z)⟩
theorem vx_L.word {C n d : String} {A : Nat → Prop} {s : State} {args : Array Value} (h : vx_L C n d A s s.heap) : (Cond.laysStatic C n d).before args s = true := by
  obtain ⟨c, k, i, f, a, cell, h1, h2, h3, h4, h5, h6, h7, h8, h9, -⟩ := h
  show (Cond.laysStatic C n d).holds args s none s [] = true
  exact Cond.laysStatic_of h1 h2 h3 h4 h5 h6 h7 h8 h9
/-- .. and what it holds: null or some reference -/
def vx_Zq (C n d : String) (A : Nat → Prop) (U : State) (H : Heap) : Prop := va_Zq C n d A U H ∧ vx_L C n d A U H
theorem vx_Zq.moved {C n d : String} {A : Nat → Prop} {u U : State} {H : Heap} (hvm : u.vm.Alike U.vm) (h : vx_Zq C n d A u H) : vx_Zq C n d A U H := ⟨va_Zq.moved hvm h.1, vx_L.moved hvm h.2⟩
theorem vx_Zq.kept {C n d : String} {A : Nat → Prop} {U : State} {H H1 : Heap} (h : vx_Zq C n d A U H) (hq : ∀ a : Nat, a < H.size → ¬ A a → H1[a]? = H[a]?) : vx_Zq C n d A U H1 := ⟨va_Zq.kept h.1 hq, vx_L.kept h.2 hq⟩
theorem vx_Zq.narrow {C n d : String} {A B : Nat → Prop} {U : State} {H : Heap} (h : vx_Zq C n d A U H) (hAB : ∀ q, B q → A q) : vx_Zq C n d B U H := ⟨va_Zq.narrow h.1 hAB, vx_L.narrow h.2 hAB⟩
theorem vx_Zqof {args : Array Value} {s : State} {C n d : String} {A : Nat → Prop} (hl : (Cond.laysStatic C n d).before args s = true) (hini : (Cond.initialized C).before args s = true) (h : (Cond.isRef (.static C n d)).before args s = true) (hA : ∀ a : Nat, a < s.heap.size → ¬ A a) : vx_Zq C n d A s s.heap := by
  refine ⟨va_Zqof hl hini h hA, ?_⟩
  obtain ⟨c, k, i, f, a, cell, h1, h2, h3, h4, h5, h6, h7, h8, h9⟩ := Cond.laysStatic_spec hl
  exact ⟨c, k, i, f, a, cell, h1, h2, h3, h4, h5, h6, h7, h8, h9, hA a (Array.getElem?_eq_some_iff.mp h5).1⟩
theorem vx_isRef {C n d : String} {v : Value} {A : Nat → Prop} {s : State} {args : Array Value} (h : va_Z C n d v A s s.heap) (hv : v.isRef = true) : (Cond.isRef (.static C n d)).before args s = true := by
  obtain ⟨cf, kf, fi, f, a, cell, h1, h2, h3, h4, h5, h6, h7, -⟩ := h
  have he : (Term.static C n d).eval args s none [] s = some v := by
    simp [Term.eval, State.fieldNamed?, h1, h2, h4, h5, h6, h7]
  simp only [Cond.before, Cond.holds, Cond.value, he]
  cases v <;> simp_all [Value.isRef]
theorem vx_isRefq {C n d : String} {A : Nat → Prop} {s : State} {args : Array Value} (h : va_Zq C n d A s s.heap) : (Cond.isRef (.static C n d)).before args s = true := by
  rcases h with h | ⟨t, h⟩
  · exact vx_isRef h rfl
  · exact vx_isRef h rfl
/-- the same frame, seen from here: as if the method were called anew in this heap -/
theorem vx_rebase {T : State} (X : Stand p l e R s m args below meth c T locs cells slots) {R' : Room} (hf : R'.frames ≤ R.frames) (hl : R'.locals ≤ R.locals) (hc : cells + R'.cells ≤ R.cells) (hs : slots + R'.slots ≤ R.slots) :
    Stand p l e R' ((T.setVm s.vm).setFrames (.invoking m args :: below)) m args below meth c T [] 0 0 := by
  have htop : (T.setVm s.vm).topJava?.isSome := X.here.top
  have hF : ((T.setVm s.vm).setFrames (.invoking m args :: below)).frames = .invoking m args :: below := State.frames_setFrames _ (State.cur_lt_of_top htop)
  obtain ⟨g₀, hg0⟩ := Option.isSome_iff_exists.mp htop
  obtain ⟨r, hr⟩ := State.topJava?_eq_some.mp hg0
  have hl9 : e.platform.stackLimits (T.setVm s.vm).me = e.platform.stackLimits s.me := X.limits
  have hb9 : (T.setVm s.vm).me.stackBytes = s.me.stackBytes := X.bytes
  refine ⟨X.admits, X.cas, X.clock, hF, ?_, X.hears, X.method, X.code, X.here, X.tail, X.warmed, ?_, ?_, ?_⟩
  · have h := X.room
    have hU : ((T.setVm s.vm).setFrames (.invoking m args :: below)).localsInUse = s.localsInUse := by
      rw [State.localsInUse_invoking hF (meth := meth) (c := c) X.method X.code, State.localsInUse_invoking X.frames X.method X.code]
    simp only [State.hasRoom, Bool.and_eq_true, decide_eq_true_eq] at h ⊢
    obtain ⟨⟨⟨⟨h1, h2, h3, h4, h5, h6⟩, h7⟩, h8⟩, h9⟩ := h
    rw [X.frames, List.length_cons] at h2 h3
    have q1 := X.heapSize
    have q2 := X.used
    simp only [hF, hU, List.length_cons, State.stackLimits_setFrames, State.stackBytes_setFrames, hl9, hb9]
    refine ⟨⟨⟨⟨by omega, by omega, by omega, by omega, by omega, h6⟩, ?_⟩, ?_⟩, X.book⟩
    · show T.heap.size + R'.cells ≤ e.platform.maxCells
      omega
    · show T.slotsUsed + R'.slots ≤ e.platform.maxSlots
      omega
  · rw [State.stackLimits_setFrames]; rfl
  · rw [State.stackBytes_setFrames]; rfl
  · refine ⟨?_, Nat.le_refl _, Nat.le_refl _, ?_, ?_, fun a c9 h9 => ⟨c9, h9, rfl, rfl, fun _ _ => rfl⟩⟩
    · obtain ⟨t, ht, -⟩ := State.frames_cons hr
      show T.setVm s.vm = { ((T.setVm s.vm).setFrames (.invoking m args :: below)).setFrames (T.setVm s.vm).frames with heap := T.heap, slotsUsed := T.slotsUsed }
      rw [State.setFrames_setFrames, State.setFrames_self ht]
      rfl
    · show T.slotsUsed = T.slotsUsed + ((T.heap.toList.drop T.heap.size).map (·.slots.size)).sum
      rw [List.drop_eq_nil_of_le (Nat.le_of_eq Array.length_toList)]
      rfl
    · show ((T.heap.toList.drop T.heap.size).map (·.slots.size)).sum ≤ 0
      rw [List.drop_eq_nil_of_le (Nat.le_of_eq Array.length_toList)]
      exact Nat.le_refl _
/-- 'throw new E()': new; dup; invokespecial; athrow -/
theorem vx_throw0 {cc : ByteArray} {pc : Nat} (hexec : p.tables.exec = Jvm.exec) (hb : c.code = cc) (hl : l.stackTraces = false) {own cls : String} {names : List String} {ik ic mc ms : Nat} {A : Nat → Prop}
    (hown : s.vm.findClass own = some m.cls) (hcls : Bundle.fit cls = true) (hnames : ∀ n ∈ names, Bundle.fit n = true)
    (hk : (Cond.classLink own ik cls).before args s = true) (hini : (Cond.initialized cls).before args s = true) (hat : ∀ w ∈ vx_at0 own ic cls names, w.before args s = true)
    (hgood : ∀ w ∈ Cond.classLink own ik cls :: Cond.initialized cls :: vx_at0 own ic cls names, vx_ot w = true)
    (hU : vx_Zq Bundle.tN "UNASSIGNED_STACK" Bundle.steD A s s.heap) (hN : vx_Zq Bundle.tN "SUPPRESSED_SENTINEL" Bundle.listD A s s.heap) (hS : va_S A s.heap H locs) (hsize : ls.size = c.maxLocals)
    (d0 : decode cc pc = .ok (.new ik, 3)) (d3 : decode cc (pc + 3) = .ok (.dup, 1)) (d4 : decode cc (pc + 4) = .ok (.invokespecial ic, 3)) (d7 : decode cc (pc + 7) = .ok (.athrow, 1))
    (hout : ∀ x ∈ c.exceptionTable.toList, covers x (pc + 7) = false)
    (hRframes : names.length + 3 < R.frames) (hRlocals : (rest.map fun v => v.category).sum + (13 * (names.length + 1) + 42) ≤ R.locals) (hRcells : cells + 1 ≤ R.cells) (hRslots : slots + 6 ≤ R.slots) (hlocks : meth.locks = false)
    (hx : ∀ t : State, s.vm.Alike t.vm → H.size ≤ t.heap.size → (∀ q : Nat, q < H.size → t.heap[q]? = H[q]?) → XC cls s t)
    (hf : ∀ z ∈ locs, free z.base) (hc : cells + 1 ≤ mc) (hs : slots + 6 ≤ ms) :
    W p l e R s m args below meth c H locs cells slots (vx_MQ below Qc XC args s mc ms free) (F0 m pc ls rest) := by
  intro T hT X
  have htr : e.platform.stackTraces = false := (show e.platform.stackTraces = l.stackTraces by rw [X.admits.platform]).trans hl
  have Y := vx_rebase X (R' := { frames := R.frames, locals := R.locals, cells := 1, slots := 6 }) (Nat.le_refl _) (Nat.le_refl _) hRcells hRslots
  obtain ⟨s', hA⟩ : ∃ z, z = (T.setVm s.vm).setFrames (.invoking m args :: below) := ⟨_, rfl⟩
  rw [← hA] at Y
  have hvm : s'.vm = s.vm := by rw [hA]; rfl
  have hhp : s'.heap = H := by rw [hA]; exact hT
  have hW0 : s.WarmedH s'.vm := by rw [hvm]; exact State.WarmedH.refl s
  have hat' : ∀ w ∈ vx_at0 own ic cls names, w.before args s' = true := fun w hw => vx_ot_at hW0 hvm.symm (hgood w (List.mem_cons_of_mem _ (List.mem_cons_of_mem _ hw))) (hat w hw)
  have hk' : (Cond.classLink own ik cls).before args s' = true := vx_ot_at hW0 hvm.symm (hgood _ List.mem_cons_self) hk
  have hini' : (Cond.initialized cls).before args s' = true := vx_ot_at hW0 hvm.symm (hgood _ (List.mem_cons_of_mem _ List.mem_cons_self)) hini
  have hU' : vx_Zq Bundle.tN "UNASSIGNED_STACK" Bundle.steD A s' s'.heap := by rw [hhp]; exact vx_Zq.moved hW0.alike (hU.kept hS.2.1)
  have hN' : vx_Zq Bundle.tN "SUPPRESSED_SENTINEL" Bundle.listD A s' s'.heap := by rw [hhp]; exact vx_Zq.moved hW0.alike (hN.kept hS.2.1)
  have h : ∀ w ∈ Bundle.ownAtoms0 own ic cls names, w.before args s' = true := vx_own hat' (vx_isRefq hU'.1) (vx_isRefq hN'.1) hU'.2.word hN'.2.word
  have hown' : s'.vm.findClass own = some m.cls := by rw [hvm]; exact hown
  have hins : (Cond.instantiable cls 6).before args s' = true := h _ (by simp [Bundle.ownAtoms0])
  obtain ⟨vm₁, cX, kX, hfX, hkX, -, -, X₁, st1⟩ := Y.newCold hexec (own := own) (C := cls) (index := ik) (n := 6) hown' hk' hins hini'
    (g := F0 m pc ls rest) rfl (by rw [hb]; exact d0) (Nat.le_refl _) (Nat.le_refl _)
  generalize hT1 : (T.setVm vm₁).pushCell { cls := cX, slots := kX.instanceTypes.map defaultValue, vm := .none } = T1 at X₁ st1
  have hcat : (Value.ref T.heap.size).category = 1 := rfl
  have hcellA : T1.heap[T.heap.size]? = some (freshCell cX kX) := by rw [← hT1]; exact State.heap_pushCell_size _ _
  have d3' : decode c.code (pc + 3) = .ok (.dup, 1) := by rw [hb]; exact d3
  obtain ⟨U, hsteps, hrun, hend, hW, hsame, ce, hce, hO⟩ := X₁.ctorThrow0 hexec htr (own := own) (cls := cls) (names := names) (ic := ic) hown' hcls hnames h (fun x hx => nomatch hx) hfX hkX hcellA (by rw [hhp, hT]; exact Nat.le_refl _)
    (g := { method := m, pc := pc + 4, locals := ls, stack := .ref T.heap.size :: .ref T.heap.size :: rest, locked := none }) rfl hsize rfl rfl (rest := rest) rfl
    (by rw [hb]; exact d4) (by rw [hb]; exact d7) hout hRframes (by simp only [List.map_cons, List.sum_cons, hcat]; omega) hlocks
  obtain ⟨f1, f2⟩ := vx_frame hsame
  rw [hhp] at f1 f2
  have hWs : s.WarmedH U.vm := State.WarmedH.trans hW0 hW
  have hcl : s.vm.findClass cls = some ce.cls := by
    have h9 := hO.cls
    rw [hvm] at h9
    exact h9
  have hall : s.sameButNew ({ U with vm := s.vm } : State) locs mc ms := by
    subst hA
    obtain ⟨e1, e2⟩ := hsame
    rw [State.setFrames_setFrames] at e1
    have h2 : (T.setVm s.vm).sameButNew ({ U with vm := s.vm } : State) [] (0 + 1) (0 + 6) := ⟨e1, e2⟩
    have h3 := X.same.trans h2
    rw [List.append_nil] at h3
    exact h3.mono hc hs
  refine ⟨U, ?_, .threw T.heap.size, hrun, hend, Or.inr ⟨T.heap.size, rfl, cls, ce, locs, hx U hWs.alike f1 (fun q hq => f2 q hq (fun z hz => nomatch hz)), hce, hO.vm, hcl, hWs, hall, hf⟩⟩
  refine st1 _ ?_
  show Steps p.tables e below (T1.setTop { method := m, pc := pc + 3, locals := ls, stack := .ref T.heap.size :: rest, locked := none }) _
  jvm_step X₁.here [X₁.here.top, hexec, d3', Value.category]
  exact hsteps
/-- 'throw new E("text")': new; dup; ldc; invokespecial; athrow -/
theorem vx_throwS {cc : ByteArray} {pc : Nat} (hexec : p.tables.exec = Jvm.exec) (hb : c.code = cc) (hl : l.stackTraces = false) {own cls text : String} {names : List String} {ik is ic mc ms sa : Nat} {A : Nat → Prop}
    (hown : s.vm.findClass own = some m.cls) (hcls : Bundle.fit cls = true) (hnames : ∀ n ∈ names, Bundle.fit n = true)
    (hk : (Cond.classLink own ik cls).before args s = true) (hini : (Cond.initialized cls).before args s = true) (hstr : vk_R own is text sa s) (hat : ∀ w ∈ vx_atS own ic cls names, w.before args s = true)
    (hgood : ∀ w ∈ Cond.classLink own ik cls :: Cond.initialized cls :: vx_atS own ic cls names, vx_ot w = true)
    (hU : vx_Zq Bundle.tN "UNASSIGNED_STACK" Bundle.steD A s s.heap) (hN : vx_Zq Bundle.tN "SUPPRESSED_SENTINEL" Bundle.listD A s s.heap) (hS : va_S A s.heap H locs) (hsize : ls.size = c.maxLocals)
    (d0 : decode cc pc = .ok (.new ik, 3)) (d3 : decode cc (pc + 3) = .ok (.dup, 1)) (d4 : decode cc (pc + 4) = .ok (.ldc is, 2)) (d6 : decode cc (pc + 6) = .ok (.invokespecial ic, 3)) (d9 : decode cc (pc + 9) = .ok (.athrow, 1))
    (hout : ∀ x ∈ c.exceptionTable.toList, covers x (pc + 9) = false)
    (hRframes : names.length + 3 < R.frames) (hRlocals : (rest.map fun v => v.category).sum + (13 * (names.length + 1) + 43) ≤ R.locals) (hRcells : cells + 1 ≤ R.cells) (hRslots : slots + 6 ≤ R.slots) (hlocks : meth.locks = false)
    (hx : ∀ t : State, s.vm.Alike t.vm → H.size ≤ t.heap.size → (∀ q : Nat, q < H.size → t.heap[q]? = H[q]?) → XC cls s t)
    (hf : ∀ z ∈ locs, free z.base) (hc : cells + 1 ≤ mc) (hs : slots + 6 ≤ ms) :
    W p l e R s m args below meth c H locs cells slots (vx_MQ below Qc XC args s mc ms free) (F0 m pc ls rest) := by
  intro T hT X
  have htr : e.platform.stackTraces = false := (show e.platform.stackTraces = l.stackTraces by rw [X.admits.platform]).trans hl
  have Y := vx_rebase X (R' := { frames := R.frames, locals := R.locals, cells := 1, slots := 6 }) (Nat.le_refl _) (Nat.le_refl _) hRcells hRslots
  obtain ⟨s', hA⟩ : ∃ z, z = (T.setVm s.vm).setFrames (.invoking m args :: below) := ⟨_, rfl⟩
  rw [← hA] at Y
  have hvm : s'.vm = s.vm := by rw [hA]; rfl
  have hhp : s'.heap = H := by rw [hA]; exact hT
  have hW0 : s.WarmedH s'.vm := by rw [hvm]; exact State.WarmedH.refl s
  have hat' : ∀ w ∈ vx_atS own ic cls names, w.before args s' = true := fun w hw => vx_ot_at hW0 hvm.symm (hgood w (List.mem_cons_of_mem _ (List.mem_cons_of_mem _ hw))) (hat w hw)
  have hk' : (Cond.classLink own ik cls).before args s' = true := vx_ot_at hW0 hvm.symm (hgood _ List.mem_cons_self) hk
  have hini' : (Cond.initialized cls).before args s' = true := vx_ot_at hW0 hvm.symm (hgood _ (List.mem_cons_of_mem _ List.mem_cons_self)) hini
  have hU' : vx_Zq Bundle.tN "UNASSIGNED_STACK" Bundle.steD A s' s'.heap := by rw [hhp]; exact vx_Zq.moved hW0.alike (hU.kept hS.2.1)
  have hN' : vx_Zq Bundle.tN "SUPPRESSED_SENTINEL" Bundle.listD A s' s'.heap := by rw [hhp]; exact vx_Zq.moved hW0.alike (hN.kept hS.2.1)
  have h : ∀ w ∈ Bundle.ownAtoms own ic cls names, w.before args s' = true := vx_own hat' (vx_isRefq hU'.1) (vx_isRefq hN'.1) hU'.2.word hN'.2.word
  have hown' : s'.vm.findClass own = some m.cls := by rw [hvm]; exact hown
  have hins : (Cond.instantiable cls 6).before args s' = true := h _ (by simp [Bundle.ownAtoms])
  obtain ⟨vm₁, cX, kX, hfX, hkX, -, -, X₁, st1⟩ := Y.newCold hexec (own := own) (C := cls) (index := ik) (n := 6) hown' hk' hins hini'
    (g := F0 m pc ls rest) rfl (by rw [hb]; exact d0) (Nat.le_refl _) (Nat.le_refl _)
  generalize hT1 : (T.setVm vm₁).pushCell { cls := cX, slots := kX.instanceTypes.map defaultValue, vm := .none } = T1 at X₁ st1
  have hcat : (Value.ref T.heap.size).category = 1 := rfl
  have hcellA : T1.heap[T.heap.size]? = some (freshCell cX kX) := by rw [← hT1]; exact State.heap_pushCell_size _ _
  have d3' : decode c.code (pc + 3) = .ok (.dup, 1) := by rw [hb]; exact d3
  have d4' : decode c.code (pc + 4) = .ok (.ldc is, 2) := by rw [hb]; exact d4
  have hstr' : vk_R own is text sa s' := vk_R.warm hW0 hstr
  obtain ⟨U, hsteps, hrun, hend, hW, hsame, ce, hce, hO⟩ := X₁.ctorThrowS hexec htr (own := own) (cls := cls) (names := names) (ic := ic) hown' hcls hnames h (fun x hx => nomatch hx) hfX hkX hcellA (by rw [hhp, hT]; exact Nat.le_refl _) (msg := .ref sa) rfl
    (g := { method := m, pc := pc + 6, locals := ls, stack := .ref sa :: .ref T.heap.size :: .ref T.heap.size :: rest, locked := none }) rfl hsize rfl rfl (rest := rest) rfl
    (by rw [hb]; exact d6) (by rw [hb]; exact d9) hout hRframes (by simp only [List.map_cons, List.sum_cons, hcat]; omega) hlocks
  obtain ⟨f1, f2⟩ := vx_frame hsame
  rw [hhp] at f1 f2
  have hWs : s.WarmedH U.vm := State.WarmedH.trans hW0 hW
  have hcl : s.vm.findClass cls = some ce.cls := by
    have h9 := hO.cls
    rw [hvm] at h9
    exact h9
  have hall : s.sameButNew ({ U with vm := s.vm } : State) locs mc ms := by
    subst hA
    obtain ⟨e1, e2⟩ := hsame
    rw [State.setFrames_setFrames] at e1
    have h2 : (T.setVm s.vm).sameButNew ({ U with vm := s.vm } : State) [] (0 + 1) (0 + 6) := ⟨e1, e2⟩
    have h3 := X.same.trans h2
    rw [List.append_nil] at h3
    exact h3.mono hc hs
  refine ⟨U, ?_, .threw T.heap.size, hrun, hend, Or.inr ⟨T.heap.size, rfl, cls, ce, locs, hx U hWs.alike f1 (fun q hq => f2 q hq (fun z hz => nomatch hz)), hce, hO.vm, hcl, hWs, hall, hf⟩⟩
  refine st1 _ ?_
  show Steps p.tables e below (T1.setTop { method := m, pc := pc + 3, locals := ls, stack := .ref T.heap.size :: rest, locked := none }) _
  jvm_step X₁.here [X₁.here.top, hexec, d3', Value.category]
  exact X₁.ldcString hexec (own := own) (text := text) (index := is) (a := sa) hown' hstr'.1 hstr'.2
    (g := { method := m, pc := pc + 4, locals := ls, stack := .ref T.heap.size :: .ref T.heap.size :: rest, locked := none }) rfl d4' _ hsteps
/-- 'throw new E("text")', the text by a wide index -/
theorem vx_throwSW {cc : ByteArray} {pc : Nat} (hexec : p.tables.exec = Jvm.exec) (hb : c.code = cc) (hl : l.stackTraces = false) {own cls text : String} {names : List String} {ik is ic mc ms sa : Nat} {A : Nat → Prop}
    (hown : s.vm.findClass own = some m.cls) (hcls : Bundle.fit cls = true) (hnames : ∀ n ∈ names, Bundle.fit n = true)
    (hk : (Cond.classLink own ik cls).before args s = true) (hini : (Cond.initialized cls).before args s = true) (hstr : vk_R own is text sa s) (hat : ∀ w ∈ vx_atS own ic cls names, w.before args s = true)
    (hgood : ∀ w ∈ Cond.classLink own ik cls :: Cond.initialized cls :: vx_atS own ic cls names, vx_ot w = true)
    (hU : vx_Zq Bundle.tN "UNASSIGNED_STACK" Bundle.steD A s s.heap) (hN : vx_Zq Bundle.tN "SUPPRESSED_SENTINEL" Bundle.listD A s s.heap) (hS : va_S A s.heap H locs) (hsize : ls.size = c.maxLocals)
    (d0 : decode cc pc = .ok (.new ik, 3)) (d3 : decode cc (pc + 3) = .ok (.dup, 1)) (d4 : decode cc (pc + 4) = .ok (.ldc_w is, 3)) (d7 : decode cc (pc + 7) = .ok (.invokespecial ic, 3)) (d10 : decode cc (pc + 10) = .ok (.athrow, 1))
    (hout : ∀ x ∈ c.exceptionTable.toList, covers x (pc + 10) = false)
    (hRframes : names.length + 3 < R.frames) (hRlocals : (rest.map fun v => v.category).sum + (13 * (names.length + 1) + 43) ≤ R.locals) (hRcells : cells + 1 ≤ R.cells) (hRslots : slots + 6 ≤ R.slots) (hlocks : meth.locks = false)
    (hx : ∀ t : State, s.vm.Alike t.vm → H.size ≤ t.heap.size → (∀ q : Nat, q < H.size → t.heap[q]? = H[q]?) → XC cls s t)
    (hf : ∀ z ∈ locs, free z.base) (hc : cells + 1 ≤ mc) (hs : slots + 6 ≤ ms) :
    W p l e R s m args below meth c H locs cells slots (vx_MQ below Qc XC args s mc ms free) (F0 m pc ls rest) := by
  intro T hT X
  have htr : e.platform.stackTraces = false := (show e.platform.stackTraces = l.stackTraces by rw [X.admits.platform]).trans hl
  have Y := vx_rebase X (R' := { frames := R.frames, locals := R.locals, cells := 1, slots := 6 }) (Nat.le_refl _) (Nat.le_refl _) hRcells hRslots
  obtain ⟨s', hA⟩ : ∃ z, z = (T.setVm s.vm).setFrames (.invoking m args :: below) := ⟨_, rfl⟩
  rw [← hA] at Y
  have hvm : s'.vm = s.vm := by rw [hA]; rfl
  have hhp : s'.heap = H := by rw [hA]; exact hT
  have hW0 : s.WarmedH s'.vm := by rw [hvm]; exact State.WarmedH.refl s
  have hat' : ∀ w ∈ vx_atS own ic cls names, w.before args s' = true := fun w hw => vx_ot_at hW0 hvm.symm (hgood w (List.mem_cons_of_mem _ (List.mem_cons_of_mem _ hw))) (hat w hw)
  have hk' : (Cond.classLink own ik cls).before args s' = true := vx_ot_at hW0 hvm.symm (hgood _ List.mem_cons_self) hk
  have hini' : (Cond.initialized cls).before args s' = true := vx_ot_at hW0 hvm.symm (hgood _ (List.mem_cons_of_mem _ List.mem_cons_self)) hini
  have hU' : vx_Zq Bundle.tN "UNASSIGNED_STACK" Bundle.steD A s' s'.heap := by rw [hhp]; exact vx_Zq.moved hW0.alike (hU.kept hS.2.1)
  have hN' : vx_Zq Bundle.tN "SUPPRESSED_SENTINEL" Bundle.listD A s' s'.heap := by rw [hhp]; exact vx_Zq.moved hW0.alike (hN.kept hS.2.1)
  have h : ∀ w ∈ Bundle.ownAtoms own ic cls names, w.before args s' = true := vx_own hat' (vx_isRefq hU'.1) (vx_isRefq hN'.1) hU'.2.word hN'.2.word
  have hown' : s'.vm.findClass own = some m.cls := by rw [hvm]; exact hown
  have hins : (Cond.instantiable cls 6).before args s' = true := h _ (by simp [Bundle.ownAtoms])
  obtain ⟨vm₁, cX, kX, hfX, hkX, -, -, X₁, st1⟩ := Y.newCold hexec (own := own) (C := cls) (index := ik) (n := 6) hown' hk' hins hini'
    (g := F0 m pc ls rest) rfl (by rw [hb]; exact d0) (Nat.le_refl _) (Nat.le_refl _)
  generalize hT1 : (T.setVm vm₁).pushCell { cls := cX, slots := kX.instanceTypes.map defaultValue, vm := .none } = T1 at X₁ st1
  have hcat : (Value.ref T.heap.size).category = 1 := rfl
  have hcellA : T1.heap[T.heap.size]? = some (freshCell cX kX) := by rw [← hT1]; exact State.heap_pushCell_size _ _
  have d3' : decode c.code (pc + 3) = .ok (.dup, 1) := by rw [hb]; exact d3
  have d4' : decode c.code (pc + 4) = .ok (.ldc_w is, 3) := by rw [hb]; exact d4
  have hstr' : vk_R own is text sa s' := vk_R.warm hW0 hstr
  obtain ⟨U, hsteps, hrun, hend, hW, hsame, ce, hce, hO⟩ := X₁.ctorThrowS hexec htr (own := own) (cls := cls) (names := names) (ic := ic) hown' hcls hnames h (fun x hx => nomatch hx) hfX hkX hcellA (by rw [hhp, hT]; exact Nat.le_refl _) (msg := .ref sa) rfl
    (g := { method := m, pc := pc + 7, locals := ls, stack := .ref sa :: .ref T.heap.size :: .ref T.heap.size :: rest, locked := none }) rfl hsize rfl rfl (rest := rest) rfl
    (by rw [hb]; exact d7) (by rw [hb]; exact d10) hout hRframes (by simp only [List.map_cons, List.sum_cons, hcat]; omega) hlocks
  obtain ⟨f1, f2⟩ := vx_frame hsame
  rw [hhp] at f1 f2
  have hWs : s.WarmedH U.vm := State.WarmedH.trans hW0 hW
  have hcl : s.vm.findClass cls = some ce.cls := by
    have h9 := hO.cls
    rw [hvm] at h9
    exact h9
  have hall : s.sameButNew ({ U with vm := s.vm } : State) locs mc ms := by
    subst hA
    obtain ⟨e1, e2⟩ := hsame
    rw [State.setFrames_setFrames] at e1
    have h2 : (T.setVm s.vm).sameButNew ({ U with vm := s.vm } : State) [] (0 + 1) (0 + 6) := ⟨e1, e2⟩
    have h3 := X.same.trans h2
    rw [List.append_nil] at h3
    exact h3.mono hc hs
  refine ⟨U, ?_, .threw T.heap.size, hrun, hend, Or.inr ⟨T.heap.size, rfl, cls, ce, locs, hx U hWs.alike f1 (fun q hq => f2 q hq (fun z hz => nomatch hz)), hce, hO.vm, hcl, hWs, hall, hf⟩⟩
  refine st1 _ ?_
  show Steps p.tables e below (T1.setTop { method := m, pc := pc + 3, locals := ls, stack := .ref T.heap.size :: rest, locked := none }) _
  jvm_step X₁.here [X₁.here.top, hexec, d3', Value.category]
  exact X₁.ldcStringW hexec (own := own) (text := text) (index := is) (a := sa) hown' hstr'.1 hstr'.2
    (g := { method := m, pc := pc + 4, locals := ls, stack := .ref T.heap.size :: .ref T.heap.size :: rest, locked := none }) rfl d4' _ hsteps
end Ends
section Bodies
variable {l : Launch}
theorem vx_ofW {y : MethodName} {ws ws' : List Cond} {rm : Room} {Pc : Array Value → State → Prop} {Qc : Array Value → State → Outcome → State → Prop} {XC : String → State → State → Prop} {mc ms : Nat} {free : Addr → Prop} {cc : ByteArray} {maxL : Nat} {ret : Option FieldType}
    (hy : plainName y.cls = true) (hw : ws = Cond.code y cc maxL ret :: ws')
    (body : ∀ p e s m args below meth c s₁, BodyLoose p l y (headSpec ws rm) cc maxL ret e s m args below meth c s₁ → c.maxLocals = maxL → (∀ x ∈ c.exceptionTable.toList, False) → Pc args s →
      W p l e (headSpec ws rm).room s m args below meth c s.heap [] 0 0 (vx_MQ below Qc XC args s mc ms free) (entryFrame m args maxL)) : vx_Met l y ws rm Pc Qc XC mc ms free := by
  refine MetFree.of_bodyS (code := cc) (maxLocals := maxL) (ret := ret) hy ?_ ?_
  · intro args s m h hn
    obtain ⟨meth, c, h1, h2, h3, h4, h5, h6, -, -⟩ := Cond.code_spec hn (atoms_spec (ws := ws) h _ (by rw [hw]; exact List.mem_cons_self))
    exact ⟨meth, c, h1, h2, h3, h4, h5, h6⟩
  · intro p e s m args below meth c s₁ B hml hP _
    have hh0 : s₁.heap = s.heap := by rw [B.state]; rfl
    have ht : ∀ x ∈ c.exceptionTable.toList, False := by
      obtain ⟨meth9, c9, h1, h2, -, -, -, -, h7, -⟩ := Cond.code_spec B.named (atoms_spec (ws := ws) B.pre _ (by rw [hw]; exact List.mem_cons_self))
      cases Option.some.inj (h1.symm.trans B.method)
      cases Option.some.inj (h2.symm.trans (Stand.of_body B).code)
      intro x hx
      rw [Array.isEmpty_iff.mp h7] at hx
      cases hx
    obtain ⟨t, a1, o, b1, b2, b3⟩ := body p e s m args below meth c s₁ B hml ht hP s₁ hh0 (Stand.of_body B)
    exact ⟨t, o, a1, b1, b2, b3⟩
/-- the table of a body with handlers -/
theorem vx_table {p : Program} {x y : MethodName} {S : Spec} {cc bytes : ByteArray} {maxL maxL' : Nat} {ret ret' : Option FieldType} {e : Env} {s s₁ : State} {m : MethodId} {args : Array Value} {below : List Frame} {meth : Method} {c : Code} {hh : List (Nat × Nat × Nat × Nat)}
    (B : BodyLoose p l y S cc maxL ret e s m args below meth c s₁) (h : (Cond.codeWith y bytes maxL' ret' hh).before args s = true) : c.exceptionTable.toList = tableOf hh := by
  obtain ⟨m9, meth9, c9, hn9, h1, h2, -, -, h6, -⟩ := Cond.codeWith_spec h
  cases Option.some.inj (hn9.symm.trans B.named)
  cases Option.some.inj (h1.symm.trans B.method)
  cases Option.some.inj (h2.symm.trans (Stand.of_body B).code)
  rw [← h6, table_eq]
end Bodies
end VXA
/-! ===== END ===== -/
/-! ===== BEGIN a static call of a method with an exception table ===== -/
section VXS
variable {p : Program} {l : Launch} {e : Env} {R : Room} {s : State} {m : MethodId} {args : Array Value} {below : List Frame} {meth : Method} {c : Code} {T : State} {H : Heap} {locs : List Loc} {cells slots : Nat}
abbrev vx_CSW (R : Room) (s : State) (args : Array Value) (own : String) (index : Nat) (y : MethodName) (bytes : ByteArray) (maxL : Nat) (ret : Option FieldType) (hh : List (Nat × Nat × Nat × Nat)) (ws : List Cond) (rm : Room) (mc ms n : Nat) : Prop :=
  (rm.cells = mc ∧ rm.slots = ms ∧ rm.frames + 1 ≤ R.frames ∧ 8 + (maxL + 11) + rm.locals ≤ R.locals ∧ (∀ w ∈ ws, ∀ (a' : Array Value) (U : State), s.WarmedH U.vm → w.before a' U = true) ∧ Cond.codeWith y bytes maxL ret hh ∈ ws) ∧
  (Cond.codeWith y bytes maxL ret hh).before args s = true ∧ (Cond.initialized y.cls).before args s = true ∧ (y.cls ≠ "java/lang/invoke/MethodHandle" ∧ y.cls ≠ "java/lang/invoke/VarHandle") ∧
  (∀ sig, parseMethodDescriptor y.desc = some sig → n = sig.parameters.length) ∧ (Cond.methodLink own index y).before args s = true ∧ (Cond.static y).before args s = true
theorem vx_cwSW {own : String} {index maxL mc ms : Nat} {y : MethodName} {bytes : ByteArray} {ret : Option FieldType} {hh : List (Nat × Nat × Nat × Nat)} {Ts ws ws' : List Cond} {rm : Room} (n : Nat) (ht : ∀ w ∈ Ts, w.before args s = true) (hT : GoodIn Ts (va_wsS own index y ws)) (hw : ws = Cond.codeWith y bytes maxL ret hh :: ws') (hrc : rm.cells = mc) (hrs : rm.slots = ms)
    (hd : y.cls ≠ "java/lang/invoke/MethodHandle" ∧ y.cls ≠ "java/lang/invoke/VarHandle" ∧ (parseMethodDescriptor y.desc).map (fun d => d.parameters.length) = some n) (hR : rm.frames + 1 ≤ R.frames ∧ 8 + (maxL + 11) + rm.locals ≤ R.locals) :
    vx_CSW R s args own index y bytes maxL ret hh ws rm mc ms n := by
  have ok : ∀ w ∈ va_wsS own index y ws, w.before args s = true := fun w h => ht w (hT w h).1
  have hG : GoodIn Ts ws := fun w h => hT w (by unfold va_wsS; exact List.mem_append_right _ h)
  have hc : Cond.codeWith y bytes maxL ret hh ∈ ws := by rw [hw]; exact List.mem_cons_self
  refine ⟨⟨hrc, hrs, hR.1, hR.2, pay_in ht hG, hc⟩, ht _ (hG _ hc).1, ok _ (by simp [va_wsS]), ⟨hd.1, hd.2.1⟩, fun sig h => ?_, ok _ (by simp [va_wsS]), ok _ (by simp [va_wsS])⟩
  have h2 := hd.2.2
  rw [h] at h2
  exact (Option.some.inj h2).symm
theorem vx_callSW (X : Stand p l e R s m args below meth c T locs cells slots) (hexec : p.tables.exec = Jvm.exec) {own : String} {index : Nat} {y : MethodName} {bytes : ByteArray} {maxL : Nat} {ret : Option FieldType} {hh : List (Nat × Nat × Nat × Nat)}
    (hown : s.vm.findClass own = some m.cls) (hlink : (Cond.methodLink own index y).before args s = true) (hstat : (Cond.static y).before args s = true) (hinit : (Cond.initialized y.cls).before args s = true)
    (hcode : (Cond.codeWith y bytes maxL ret hh).before args s = true) (hy : y.cls ≠ "java/lang/invoke/MethodHandle" ∧ y.cls ≠ "java/lang/invoke/VarHandle")
    {W9 : Nat} {Pre : Pt → Array Value → Prop} {Post : Pt → Array Value → Option Value → Pt → Prop} (hK : Back l R p e below s args y 3 W9 Pre Post)
    {g : JFrame} (hg : g.method = m) (hsize : g.locals.size = c.maxLocals) {argsL rest : List Value} (hlen : ∀ sig, parseMethodDescriptor y.desc = some sig → argsL.length = sig.parameters.length)
    (hstack : g.stack = argsL.reverse ++ rest) (hW : 2 * g.monitorRoom + (rest.map fun v => v.category).sum ≤ W9) (hdg : decode c.code g.pc = .ok (.invokestatic index, 3))
    (hpre : ∀ vm₁, s.WarmedH vm₁ → Pre ⟨T.setVm vm₁, locs, cells, slots⟩ argsL.toArray) :
    ∃ (v : Option Value) (vm₁ : Vm) (B : Pt), s.WarmedH vm₁ ∧ Stand p l e R s m args below meth c B.U B.locs B.cells B.slots ∧ Post ⟨T.setVm vm₁, locs, cells, slots⟩ argsL.toArray v B ∧
      ∀ target, Steps p.tables e below (B.U.setTop { g with pc := g.pc + 3, stack := v.toList ++ rest }) target → Steps p.tables e below (T.setTop g) target := by
  obtain ⟨mk, methM, cM, hnamed, hmethM, -, -, -, -, -, -, hsigM⟩ := Cond.codeWith_spec hcode
  have hstatic : methM.isStatic = true := Cond.static_spec hnamed hmethM hstat
  obtain ⟨kP, hkP, -⟩ := className_of_methodNamed hnamed
  have hinitP : kP.init = .initialized := Cond.initialized_spec (findClass_of_methodNamed hnamed) hkP hinit
  obtain ⟨vm₁, X₁, hstep₁⟩ := X.invokestatic hexec hown hlink hnamed hmethM hstatic hkP hinitP hy (g := g) hg (argsL := argsL) (rest := rest) (hlen _ hsigM) hstack hdg
  obtain ⟨v, B, X', hpost, hsteps⟩ := hK m meth c ⟨T.setVm vm₁, locs, cells, slots⟩ { g with stack := rest } (.invokestatic index) mk argsL.toArray X₁ hg hsize hdg hW (X₁.named hnamed) (hpre vm₁ X₁.warmed)
  exact ⟨v, vm₁, B, X₁.warmed, X', hpost, fun target h => hstep₁ _ fun acts => by rw [doInvoke_state]; exact hsteps.trans h⟩
theorem vx_runSW {y : MethodName} {bytes cc : ByteArray} {maxL nL mc ms n index : Nat} {ret : Option FieldType} {hh : List (Nat × Nat × Nat × Nat)} {ws : List Cond} {rm : Room} {Pc : Array Value → State → Prop} {Qc : Array Value → State → Outcome → State → Prop} {free : Addr → Prop} {Ts : List Cond} {own : String} {As rest : List Value} {g : JFrame}
    (S : CallFix p m c cc nL s args Ts own) (hM : Met l y ws rm Pc Qc mc ms free) (cw : vx_CSW R s args own index y bytes maxL ret hh ws rm mc ms n) (hp : PreS s H Pc As)
    (hg : g.method = m) (hn : As.length = n) (hsize : g.locals.size = nL) (hstack : g.stack = As.reverse ++ rest) (hW : 2 * g.monitorRoom + (rest.map fun v => v.category).sum ≤ 8) (hdg : decode cc g.pc = .ok (.invokestatic index, 3)) (hf : cells + mc ≤ R.cells ∧ slots + ms ≤ R.slots) :
    va_Run p l e R s m args below meth c H locs cells slots mc ms g rest (Qc As.toArray) (free) := by
  obtain ⟨⟨hrc, hrs, hfr, hlo, hws, hcw⟩, hcode, hini, hy, hlen, hl, hstt⟩ := cw
  have hK : Back l R p e below s args y 3 8 (PreOf R mc ms Pc) (PostOf Qc mc ms free) := va_backW (hh := hh) (bytes := bytes) (maxL := maxL) (ret := ret) hM hp.1 hrc hrs hfr hlo hws hcw (fun a' U hW => word_at hW (Or.inl (by first | rfl | simp [Cond.onTables, Cond.keeps, Cond.steady])) hini)
  obtain ⟨hx, hb, hml, ho, -⟩ := S
  intro T hT X
  obtain ⟨v, vm₁, ⟨U', l2, c2, s2⟩, hW₁, X', ⟨g', mk, t, L, e1, e2, hq, h1, hL, h2, h3⟩, st⟩ := vx_callSW X hx (hh := hh) (bytes := bytes) (maxL := maxL) (ret := ret) ho hl hstt hini hcode hy hK hg (hsize.trans hml.symm) (argsL := As) (rest := rest) (fun sig h => hn.trans (hlen sig h)) hstack hW (by rw [hb]; exact hdg)
    (fun vm₁ hW₁ => ⟨hf.1, hf.2, hp.2 (T.setVm vm₁) hT hW₁⟩)
  dsimp only [Pt.U, Pt.locs, Pt.cells, Pt.slots] at X' e1 e2 h1 h2 h3 st
  subst h1; subst h2; subst h3
  exact ⟨v, (T.setVm vm₁).calling g' mk As.toArray, t, U', L, hT, X', hL, e1, e2, hq, st⟩
/-- a thing of a world lies in the heap -/
theorem vx_lt {D : va_G} {cl : List vw_C} {ws : va_W} {H1 : Heap} (h : va_P D cl ws H1) {k : Nat} {q : Nat × va_E} (hk : ws[k]? = some q) : q.1 < H1.size := (h k q hk).lt
end VXS
/-! ===== END ===== -/
/-! ===== BEGIN methods with a table of their own: called by a name, returning or throwing ===== -/
section VXH
/-! vx_backW, vx_callVX, vx_callSX, vx_callVW, vx_runVW, vx_runVX, vx_runSX, vx_ofWH follow the same proofs as their sisters above (Free/Laws.lean, Shelf42/LK1.lean); vx_outP calls Shelf42/NT130.lean (outThrough). -/
section
variable {l : Launch} {R : Room} {p : Program} {e : Env} {below : List Frame} {s : State} {sargs : Array Value} {y : MethodName} {len W9 : Nat}
theorem vx_backW {ws : List Cond} {rm : Room} {Pc : Array Value → State → Prop} {Qc : Array Value → State → Outcome → State → Prop} {XC : String → State → State → Prop} {mc ms : Nat} {free : Addr → Prop} {bytes : ByteArray} {maxL : Nat} {ret : Option FieldType} {hh : List (Nat × Nat × Nat × Nat)}
    (hM : vx_Met l y ws rm Pc Qc XC mc ms free) (hblind : FrameBlind Pc) (hrc : rm.cells = mc) (hrs : rm.slots = ms)
    (hframes : rm.frames + 1 ≤ R.frames) (hlocals : W9 + (maxL + 11) + rm.locals ≤ R.locals)
    (hws : ∀ w ∈ ws, ∀ a' U, s.WarmedH U.vm → w.before a' U = true) (hcode : Cond.codeWith y bytes maxL ret hh ∈ ws) (hinit : ∀ a' U, s.WarmedH U.vm → (Cond.initialized y.cls).before a' U = true) :
    vx_Back l R p e below s sargs y len W9 (PreOf R mc ms Pc) (PostOf Qc mc ms free) (vx_Post XC mc ms free) := by
  intro m meth c A g ig mk a X hg hsize hdg hW hn hp
  have h1 : (headSpec ws rm).pre.before a A.U = true := atoms_intro fun w hw => hws w hw _ _ X.warmed
  have h2 : (Cond.codeWith y bytes maxL ret hh).before a A.U = true := hws _ hcode _ _ X.warmed
  have h3 : (Cond.initialized y.cls).before a A.U = true := hinit _ _ X.warmed
  have h4 : A.cells + (headSpec ws rm).room.cells ≤ R.cells := by rw [show (headSpec ws rm).room.cells = mc from hrc]; exact hp.1
  have h5 : A.slots + (headSpec ws rm).room.slots ≤ R.slots := by rw [show (headSpec ws rm).room.slots = ms from hrs]; exact hp.2.1
  have hPc : Pc a (A.U.calling g mk a) := hblind _ _ _ _ hp.2.2
  obtain ⟨U, Ls, c0, s0⟩ := A
  dsimp only [Pt.U, Pt.locs, Pt.cells, Pt.slots] at h1 h2 h3 h4 h5 X hn hPc ⊢
  obtain ⟨m9, methY, cY, hn9, hmY, hcY, -, hlY, -⟩ := Cond.codeWith_spec h2
  cases Option.some.inj (hn9.symm.trans hn)
  obtain ⟨kY, hkY, -⟩ := className_of_methodNamed hn
  have hinitY : kY.init = .initialized := Cond.initialized_spec (findClass_of_methodNamed hn) hkY h3
  have h : At U g.method c below := by rw [hg]; exact X.here
  have hlocals9 : W9 + (maxL + 11) + (headSpec ws rm).room.locals ≤ R.locals := hlocals
  have happ : (headSpec ws rm).appliesLoose y e.platform (U.calling g mk a) = true :=
    Spec.appliesLoose_calling (g := g) h hdg hn hkY hinitY
      (X.room_calling (g := g) (R' := (headSpec ws rm).room) hsize hmY hcY hframes (by rw [hlY]; omega) h4 h5) h1
  obtain ⟨mid, hmid⟩ := h.above
  have hfr : (U.setTop g).frames = (.java g :: mid) ++ below := by rw [State.frames_setTop' g h.top, hmid]; rfl
  obtain ⟨o, s₂, hsteps, -, hend, hq⟩ := Steps.callFree hM p X.admits X.cas X.clock (acts := []) hfr happ hPc trivial
  have hq' : vx_Q Qc XC mc ms free a (U.calling g mk a) o s₂ := hq
  rw [State.frames_setTop' g h.top] at hend
  obtain ⟨g₀, hg0⟩ := Option.isSome_iff_exists.mp h.top
  obtain ⟨r, hr⟩ := State.topJava?_eq_some.mp hg0
  have hr' : (({ U with heap := s₂.heap, slotsUsed := s₂.slotsUsed } : State).setVm s₂.vm).frames = .java g₀ :: r := hr
  rcases hq' with ⟨hqc, L, hfe, hL⟩ | ⟨q, rfl, E, ce, L, hx, hce, hcv, hcl, hW₂, hsm, hL⟩
  · obtain ⟨⟨v, rfl⟩, hW₂, e2, q2, q3, q4, q5, q6⟩ := id hfe
    have e3 : s₂ = ({ (U.calling g mk a).setFrames s₂.frames with heap := s₂.heap, slotsUsed := s₂.slotsUsed } : State).setVm s₂.vm := by
      have : s₂ = ({ s₂ with vm := (U.calling g mk a).vm } : State).setVm s₂.vm := rfl
      rw [e2] at this
      exact this
    obtain ⟨c₂, i₂, len₂, hc₂, hd₂, hf₂⟩ := hend
    have hW' : U.WarmedH s₂.vm := hW₂
    have hcc : c₂ = c := by
      have h1 : s₂.code? g.method = U.code? g.method := by
        rw [State.code?_eq, State.code?_eq, hW'.alike.method?]
      exact Option.some.inj (hc₂.symm.trans (h1.trans h.code))
    subst hcc
    have hlen : len₂ = len := by rw [hdg] at hd₂; cases hd₂; rfl
    subst hlen
    have hs₂ : s₂ = (({ U with heap := s₂.heap, slotsUsed := s₂.slotsUsed } : State).setVm s₂.vm).setTop { g with pc := g.pc + len₂, stack := v.toList ++ g.stack } := by
      refine e3.trans ?_
      rw [hf₂, State.calling_eq h.top, State.setFrames_setFrames, State.setTop_of_frames _ hr', hr]
      rfl
    have hsame : U.sameButNew ({ U with heap := s₂.heap, slotsUsed := s₂.slotsUsed } : State) L mc ms := by
      refine ⟨?_, q2, q3, q4, q5, q6⟩
      obtain ⟨t, ht, -⟩ := State.frames_cons hr
      show ({ U with heap := s₂.heap, slotsUsed := s₂.slotsUsed } : State) = { U.setFrames U.frames with heap := s₂.heap, slotsUsed := s₂.slotsUsed }
      rw [State.setFrames_self ht]
    subst hg
    refine Or.inl ⟨v, ⟨(({ U with heap := s₂.heap, slotsUsed := s₂.slotsUsed } : State).setVm s₂.vm), Ls ++ L, c0 + mc, s0 + ms⟩,
      ⟨X.admits, X.cas, X.clock, X.frames, X.room, X.hears, X.method, X.code, (X.here.setHeapUsed s₂.heap s₂.slotsUsed).setVm hW'.alike, X.tail, State.WarmedH.trans X.warmed hW', X.limits, X.bytes, X.same.trans (hsame.setVm s.vm)⟩,
      ⟨g, mk, s₂, L, rfl, rfl, hqc, rfl, hL, rfl, rfl⟩, ?_⟩
    show Steps p.tables e below _ ((({ U with heap := s₂.heap, slotsUsed := s₂.slotsUsed } : State).setVm s₂.vm).setTop { g with pc := g.pc + len₂, stack := v.toList ++ g.stack })
    rw [← hs₂]
    exact hsteps
  · obtain ⟨e2, q2, q3, q4, q5, q6⟩ := id hsm
    have e3 : s₂ = ({ (U.calling g mk a).setFrames s₂.frames with heap := s₂.heap, slotsUsed := s₂.slotsUsed } : State).setVm s₂.vm := by
      have : s₂ = ({ s₂ with vm := (U.calling g mk a).vm } : State).setVm s₂.vm := rfl
      rw [e2] at this
      exact this
    have hf₂ : s₂.frames = .throwing q :: .java g :: U.frames.tail := hend
    have hW' : U.WarmedH s₂.vm := hW₂
    have hs₂ : s₂ = ((({ U with heap := s₂.heap, slotsUsed := s₂.slotsUsed } : State).setVm s₂.vm).setTop g).pushFrame (.throwing q) := by
      refine e3.trans ?_
      rw [hf₂, State.calling_eq h.top, State.setFrames_setFrames, State.pushFrame, State.frames_setTop _ hr', State.setTop_of_frames _ hr', State.setFrames_setFrames, hr]
      rfl
    have hsame : U.sameButNew ({ U with heap := s₂.heap, slotsUsed := s₂.slotsUsed } : State) L mc ms := by
      refine ⟨?_, q2, q3, q4, q5, q6⟩
      obtain ⟨t, ht, -⟩ := State.frames_cons hr
      show ({ U with heap := s₂.heap, slotsUsed := s₂.slotsUsed } : State) = { U.setFrames U.frames with heap := s₂.heap, slotsUsed := s₂.slotsUsed }
      rw [State.setFrames_self ht]
    subst hg
    refine Or.inr ⟨q, ⟨(({ U with heap := s₂.heap, slotsUsed := s₂.slotsUsed } : State).setVm s₂.vm), Ls ++ L, c0 + mc, s0 + ms⟩,
      ⟨X.admits, X.cas, X.clock, X.frames, X.room, X.hears, X.method, X.code, (X.here.setHeapUsed s₂.heap s₂.slotsUsed).setVm hW'.alike, X.tail, State.WarmedH.trans X.warmed hW', X.limits, X.bytes, X.same.trans (hsame.setVm s.vm)⟩,
      ⟨g, mk, s₂, L, E, ce, rfl, rfl, hx, hce, hcv, hcl, rfl, hL, rfl, rfl⟩, ?_⟩
    show Steps p.tables e below _ (((({ U with heap := s₂.heap, slotsUsed := s₂.slotsUsed } : State).setVm s₂.vm).setTop g).pushFrame (.throwing q))
    rw [← hs₂]
    exact hsteps
end
variable {p : Program} {l : Launch} {e : Env} {R : Room} {s : State} {m : MethodId} {args : Array Value} {below : List Frame} {meth : Method} {c : Code} {T : State} {H : Heap} {locs : List Loc} {cells slots : Nat}
theorem vx_callVX (X : Stand p l e R s m args below meth c T locs cells slots) (hexec : p.tables.exec = Jvm.exec) {own C : String} {index : Nat} {y : MethodName} {bytes : ByteArray} {maxL : Nat} {ret : Option FieldType} {hh : List (Nat × Nat × Nat × Nat)}
    (hown : s.vm.findClass own = some m.cls) (hlink : (Cond.methodLink own index y).before args s = true) (hinst : (Cond.instanceMethod y).before args s = true) (hsel : (Cond.selects C y y).before args s = true)
    (hcode : (Cond.codeWith y bytes maxL ret hh).before args s = true) (hy : y.cls ≠ "java/lang/invoke/MethodHandle" ∧ y.cls ≠ "java/lang/invoke/VarHandle")
    {W9 : Nat} {Pre : Pt → Array Value → Prop} {Post : Pt → Array Value → Option Value → Pt → Prop} {PostX : Pt → Array Value → Addr → Pt → Prop} (hK : vx_Back l R p e below s args y 3 W9 Pre Post PostX)
    {b : Addr} {cellB : Cell} (hcell : T.heap[b]? = some cellB) (hobj : cellB.vm.isStatics = false) (hcls : s.vm.findClass C = some cellB.cls)
    {g : JFrame} (hg : g.method = m) (hsize : g.locals.size = c.maxLocals) {argsL rest : List Value} (hlen : ∀ sig, parseMethodDescriptor y.desc = some sig → argsL.length = sig.parameters.length)
    (hstack : g.stack = argsL.reverse ++ .ref b :: rest) (hW : 2 * g.monitorRoom + (rest.map fun v => v.category).sum ≤ W9) (hdg : decode c.code g.pc = .ok (.invokevirtual index, 3))
    (hpre : ∀ vm₁, s.WarmedH vm₁ → Pre ⟨T.setVm vm₁, locs, cells, slots⟩ (Value.ref b :: argsL).toArray) :
    (∃ (v : Option Value) (vm₁ : Vm) (B : Pt), s.WarmedH vm₁ ∧ Stand p l e R s m args below meth c B.U B.locs B.cells B.slots ∧ Post ⟨T.setVm vm₁, locs, cells, slots⟩ (Value.ref b :: argsL).toArray v B ∧
      ∀ target, Steps p.tables e below (B.U.setTop { g with pc := g.pc + 3, stack := v.toList ++ rest }) target → Steps p.tables e below (T.setTop g) target) ∨
    (∃ (q : Addr) (vm₁ : Vm) (B : Pt), s.WarmedH vm₁ ∧ Stand p l e R s m args below meth c B.U B.locs B.cells B.slots ∧ PostX ⟨T.setVm vm₁, locs, cells, slots⟩ (Value.ref b :: argsL).toArray q B ∧
      Steps p.tables e below (T.setTop g) ((B.U.setTop { g with stack := rest }).pushFrame (.throwing q))) := by
  obtain ⟨mk, methM, hnamed, hmethM, hstM, habM⟩ := Cond.instanceMethod_spec hinst
  obtain ⟨m8, methM', cM, hn8, hmethM', -, -, -, -, -, -, hsigM⟩ := Cond.codeWith_spec hcode
  cases Option.some.inj (hn8.symm.trans hnamed)
  cases hmethM.symm.trans hmethM'
  obtain ⟨c2, r2, m2, q1, q2, q3, q4, kP, hkP, hkPi⟩ := Cond.selects_spec hsel
  cases hcls.symm.trans q1
  cases (State.methodFound?_of_named hnamed hy).symm.trans q2
  cases hnamed.symm.trans q3
  have hselP : selectMethod e.platform s.vm cellB.cls mk = .method mk := by rw [Launch.admits_selectMethod X.admits]; exact q4
  obtain ⟨vm₁, X₁, hstep₁⟩ := X.invokevirtual hexec hown hlink hnamed hmethM hstM hkP hkPi hy (a := b) (cell := cellB) hcell
    (fun z h => by rw [h] at hobj; cases hobj) hselP hmethM habM hkP hkPi (g := g) hg (argsL := argsL) (rest := rest) (hlen _ hsigM) hstack hdg
  rcases hK m meth c ⟨T.setVm vm₁, locs, cells, slots⟩ { g with stack := rest } (.invokevirtual index) mk (Value.ref b :: argsL).toArray X₁ hg hsize hdg hW (X₁.named hnamed) (hpre vm₁ X₁.warmed) with ⟨v, B, X', hpost, hsteps⟩ | ⟨q, B, X', hpost, hsteps⟩
  · exact Or.inl ⟨v, vm₁, B, X₁.warmed, X', hpost, fun target h => hstep₁ _ fun acts => by rw [doInvoke_state]; exact hsteps.trans h⟩
  · exact Or.inr ⟨q, vm₁, B, X₁.warmed, X', hpost, hstep₁ _ fun acts => by rw [doInvoke_state]; exact hsteps⟩
theorem vx_callSX (X : Stand p l e R s m args below meth c T locs cells slots) (hexec : p.tables.exec = Jvm.exec) {own : String} {index : Nat} {y : MethodName} {bytes : ByteArray} {maxL : Nat} {ret : Option FieldType} {hh : List (Nat × Nat × Nat × Nat)}
    (hown : s.vm.findClass own = some m.cls) (hlink : (Cond.methodLink own index y).before args s = true) (hstat : (Cond.static y).before args s = true) (hinit : (Cond.initialized y.cls).before args s = true)
    (hcode : (Cond.codeWith y bytes maxL ret hh).before args s = true) (hy : y.cls ≠ "java/lang/invoke/MethodHandle" ∧ y.cls ≠ "java/lang/invoke/VarHandle")
    {W9 : Nat} {Pre : Pt → Array Value → Prop} {Post : Pt → Array Value → Option Value → Pt → Prop} {PostX : Pt → Array Value → Addr → Pt → Prop} (hK : vx_Back l R p e below s args y 3 W9 Pre Post PostX)
    {g : JFrame} (hg : g.method = m) (hsize : g.locals.size = c.maxLocals) {argsL rest : List Value} (hlen : ∀ sig, parseMethodDescriptor y.desc = some sig → argsL.length = sig.parameters.length)
    (hstack : g.stack = argsL.reverse ++ rest) (hW : 2 * g.monitorRoom + (rest.map fun v => v.category).sum ≤ W9) (hdg : decode c.code g.pc = .ok (.invokestatic index, 3))
    (hpre : ∀ vm₁, s.WarmedH vm₁ → Pre ⟨T.setVm vm₁, locs, cells, slots⟩ argsL.toArray) :
    (∃ (v : Option Value) (vm₁ : Vm) (B : Pt), s.WarmedH vm₁ ∧ Stand p l e R s m args below meth c B.U B.locs B.cells B.slots ∧ Post ⟨T.setVm vm₁, locs, cells, slots⟩ argsL.toArray v B ∧
      ∀ target, Steps p.tables e below (B.U.setTop { g with pc := g.pc + 3, stack := v.toList ++ rest }) target → Steps p.tables e below (T.setTop g) target) ∨
    (∃ (q : Addr) (vm₁ : Vm) (B : Pt), s.WarmedH vm₁ ∧ Stand p l e R s m args below meth c B.U B.locs B.cells B.slots ∧ PostX ⟨T.setVm vm₁, locs, cells, slots⟩ argsL.toArray q B ∧
      Steps p.tables e below (T.setTop g) ((B.U.setTop { g with stack := rest }).pushFrame (.throwing q))) := by
  obtain ⟨mk, methM, cM, hnamed, hmethM, -, -, -, -, -, -, hsigM⟩ := Cond.codeWith_spec hcode
  have hstatic : methM.isStatic = true := Cond.static_spec hnamed hmethM hstat
  obtain ⟨kP, hkP, -⟩ := className_of_methodNamed hnamed
  have hinitP : kP.init = .initialized := Cond.initialized_spec (findClass_of_methodNamed hnamed) hkP hinit
  obtain ⟨vm₁, X₁, hstep₁⟩ := X.invokestatic hexec hown hlink hnamed hmethM hstatic hkP hinitP hy (g := g) hg (argsL := argsL) (rest := rest) (hlen _ hsigM) hstack hdg
  rcases hK m meth c ⟨T.setVm vm₁, locs, cells, slots⟩ { g with stack := rest } (.invokestatic index) mk argsL.toArray X₁ hg hsize hdg hW (X₁.named hnamed) (hpre vm₁ X₁.warmed) with ⟨v, B, X', hpost, hsteps⟩ | ⟨q, B, X', hpost, hsteps⟩
  · exact Or.inl ⟨v, vm₁, B, X₁.warmed, X', hpost, fun target h => hstep₁ _ fun acts => by rw [doInvoke_state]; exact hsteps.trans h⟩
  · exact Or.inr ⟨q, vm₁, B, X₁.warmed, X', hpost, hstep₁ _ fun acts => by rw [doInvoke_state]; exact hsteps⟩
theorem vx_callVW (X : Stand p l e R s m args below meth c T locs cells slots) (hexec : p.tables.exec = Jvm.exec) {own C : String} {index : Nat} {y : MethodName} {bytes : ByteArray} {maxL : Nat} {ret : Option FieldType} {hh : List (Nat × Nat × Nat × Nat)}
    (hown : s.vm.findClass own = some m.cls) (hlink : (Cond.methodLink own index y).before args s = true) (hinst : (Cond.instanceMethod y).before args s = true) (hsel : (Cond.selects C y y).before args s = true)
    (hcode : (Cond.codeWith y bytes maxL ret hh).before args s = true) (hy : y.cls ≠ "java/lang/invoke/MethodHandle" ∧ y.cls ≠ "java/lang/invoke/VarHandle")
    {W9 : Nat} {Pre : Pt → Array Value → Prop} {Post : Pt → Array Value → Option Value → Pt → Prop} (hK : Back l R p e below s args y 3 W9 Pre Post)
    {b : Addr} {cellB : Cell} (hcell : T.heap[b]? = some cellB) (hobj : cellB.vm.isStatics = false) (hcls : s.vm.findClass C = some cellB.cls)
    {g : JFrame} (hg : g.method = m) (hsize : g.locals.size = c.maxLocals) {argsL rest : List Value} (hlen : ∀ sig, parseMethodDescriptor y.desc = some sig → argsL.length = sig.parameters.length)
    (hstack : g.stack = argsL.reverse ++ .ref b :: rest) (hW : 2 * g.monitorRoom + (rest.map fun v => v.category).sum ≤ W9) (hdg : decode c.code g.pc = .ok (.invokevirtual index, 3))
    (hpre : ∀ vm₁, s.WarmedH vm₁ → Pre ⟨T.setVm vm₁, locs, cells, slots⟩ (Value.ref b :: argsL).toArray) :
    ∃ (v : Option Value) (vm₁ : Vm) (B : Pt), s.WarmedH vm₁ ∧ Stand p l e R s m args below meth c B.U B.locs B.cells B.slots ∧ Post ⟨T.setVm vm₁, locs, cells, slots⟩ (Value.ref b :: argsL).toArray v B ∧
      ∀ target, Steps p.tables e below (B.U.setTop { g with pc := g.pc + 3, stack := v.toList ++ rest }) target → Steps p.tables e below (T.setTop g) target := by
  obtain ⟨mk, methM, hnamed, hmethM, hstM, habM⟩ := Cond.instanceMethod_spec hinst
  obtain ⟨m8, methM', cM, hn8, hmethM', -, -, -, -, -, -, hsigM⟩ := Cond.codeWith_spec hcode
  cases Option.some.inj (hn8.symm.trans hnamed)
  cases hmethM.symm.trans hmethM'
  obtain ⟨c2, r2, m2, q1, q2, q3, q4, kP, hkP, hkPi⟩ := Cond.selects_spec hsel
  cases hcls.symm.trans q1
  cases (State.methodFound?_of_named hnamed hy).symm.trans q2
  cases hnamed.symm.trans q3
  have hselP : selectMethod e.platform s.vm cellB.cls mk = .method mk := by rw [Launch.admits_selectMethod X.admits]; exact q4
  obtain ⟨vm₁, X₁, hstep₁⟩ := X.invokevirtual hexec hown hlink hnamed hmethM hstM hkP hkPi hy (a := b) (cell := cellB) hcell
    (fun z h => by rw [h] at hobj; cases hobj) hselP hmethM habM hkP hkPi (g := g) hg (argsL := argsL) (rest := rest) (hlen _ hsigM) hstack hdg
  obtain ⟨v, B, X', hpost, hsteps⟩ := hK m meth c ⟨T.setVm vm₁, locs, cells, slots⟩ { g with stack := rest } (.invokevirtual index) mk (Value.ref b :: argsL).toArray X₁ hg hsize hdg hW (X₁.named hnamed) (hpre vm₁ X₁.warmed)
  exact ⟨v, vm₁, B, X₁.warmed, X', hpost, fun target h => hstep₁ _ fun acts => by rw [doInvoke_state]; exact hsteps.trans h⟩
abbrev vx_CVW (R : Room) (s : State) (args : Array Value) (own C : String) (index : Nat) (y : MethodName) (bytes : ByteArray) (maxL : Nat) (ret : Option FieldType) (hh : List (Nat × Nat × Nat × Nat)) (ws : List Cond) (rm : Room) (mc ms n : Nat) : Prop :=
  (rm.cells = mc ∧ rm.slots = ms ∧ rm.frames + 1 ≤ R.frames ∧ 8 + (maxL + 11) + rm.locals ≤ R.locals ∧ (∀ w ∈ ws, ∀ (a' : Array Value) (U : State), s.WarmedH U.vm → w.before a' U = true) ∧ Cond.codeWith y bytes maxL ret hh ∈ ws) ∧
  (Cond.codeWith y bytes maxL ret hh).before args s = true ∧ (Cond.initialized y.cls).before args s = true ∧ (y.cls ≠ "java/lang/invoke/MethodHandle" ∧ y.cls ≠ "java/lang/invoke/VarHandle") ∧
  (∀ sig, parseMethodDescriptor y.desc = some sig → n = sig.parameters.length) ∧ (Cond.methodLink own index y).before args s = true ∧ (Cond.instanceMethod y).before args s = true ∧ (Cond.selects C y y).before args s = true
theorem vx_cwVW {own C : String} {index maxL mc ms : Nat} {y : MethodName} {bytes : ByteArray} {ret : Option FieldType} {hh : List (Nat × Nat × Nat × Nat)} {Ts ws ws' : List Cond} {rm : Room} (n : Nat) (ht : ∀ w ∈ Ts, w.before args s = true) (hT : GoodIn Ts (wsV own index C y ws)) (hw : ws = Cond.codeWith y bytes maxL ret hh :: ws') (hrc : rm.cells = mc) (hrs : rm.slots = ms)
    (hd : y.cls = C ∧ y.cls ≠ "java/lang/invoke/MethodHandle" ∧ y.cls ≠ "java/lang/invoke/VarHandle" ∧ (parseMethodDescriptor y.desc).map (fun d => d.parameters.length) = some n) (hR : rm.frames + 1 ≤ R.frames ∧ 8 + (maxL + 11) + rm.locals ≤ R.locals) :
    vx_CVW R s args own C index y bytes maxL ret hh ws rm mc ms n := by
  obtain ⟨hC, hd⟩ := hd
  subst hC
  have ok : ∀ w ∈ wsV own index y.cls y ws, w.before args s = true := fun w h => ht w (hT w h).1
  have hG : GoodIn Ts ws := fun w h => hT w (by unfold wsV; exact List.mem_append_right _ h)
  have hc : Cond.codeWith y bytes maxL ret hh ∈ ws := by rw [hw]; exact List.mem_cons_self
  refine ⟨⟨hrc, hrs, hR.1, hR.2, pay_in ht hG, hc⟩, ht _ (hG _ hc).1, ok _ (by simp [wsV]), ⟨hd.1, hd.2.1⟩, fun sig h => ?_, ok _ (by simp [wsV]), ok _ (by simp [wsV]), ok _ (by simp [wsV])⟩
  have h2 := hd.2.2
  rw [h] at h2
  exact (Option.some.inj h2).symm
theorem vx_runVW {y : MethodName} {bytes cc : ByteArray} {maxL nL mc ms n index : Nat} {ret : Option FieldType} {hh : List (Nat × Nat × Nat × Nat)} {ws : List Cond} {rm : Room} {Pc : Array Value → State → Prop} {Qc : Array Value → State → Outcome → State → Prop} {free : Addr → Prop} {Ts : List Cond} {own C : String} {b : Addr} {As rest : List Value} {g : JFrame}
    (S : CallFix p m c cc nL s args Ts own) (hM : Met l y ws rm Pc Qc mc ms free) (cw : vx_CVW R s args own C index y bytes maxL ret hh ws rm mc ms n) (hp : PreV s H C b Pc As)
    (hg : g.method = m) (hn : As.length = n) (hsize : g.locals.size = nL) (hstack : g.stack = As.reverse ++ .ref b :: rest) (hW : 2 * g.monitorRoom + (rest.map fun v => v.category).sum ≤ 8) (hdg : decode cc g.pc = .ok (.invokevirtual index, 3)) (hf : cells + mc ≤ R.cells ∧ slots + ms ≤ R.slots) :
    va_Run p l e R s m args below meth c H locs cells slots mc ms g rest (Qc (Value.ref b :: As).toArray) free := by
  obtain ⟨⟨hrc, hrs, hfr, hlo, hws, hcw⟩, hcode, hini, hy, hlen, hl, hin, hse⟩ := cw
  have hK : Back l R p e below s args y 3 8 (PreOf R mc ms Pc) (PostOf Qc mc ms free) := va_backW (hh := hh) (bytes := bytes) (maxL := maxL) (ret := ret) hM hp.1 hrc hrs hfr hlo hws hcw (fun a' U hW => word_at hW (Or.inl (by first | rfl | simp [Cond.onTables, Cond.keeps, Cond.steady])) hini)
  obtain ⟨hx, hb, hml, ho, -⟩ := S
  obtain ⟨-, ⟨cellB, hcB, hoB, hclB⟩, hPc⟩ := hp
  intro T hT X
  obtain ⟨v, vm₁, ⟨U', l2, c2, s2⟩, hW₁, X', ⟨g', mk, t, L, e1, e2, hq, h1, hL, h2, h3⟩, st⟩ := vx_callVW X hx (C := C) (hh := hh) (bytes := bytes) (maxL := maxL) (ret := ret) ho hl hin hse hcode hy hK (by rw [hT]; exact hcB) hoB hclB hg (hsize.trans hml.symm) (argsL := As) (rest := rest) (fun sig h => hn.trans (hlen sig h)) hstack hW (by rw [hb]; exact hdg)
    (fun vm₁ hW₁ => ⟨hf.1, hf.2, hPc (T.setVm vm₁) hT hW₁⟩)
  dsimp only [Pt.U, Pt.locs, Pt.cells, Pt.slots] at X' e1 e2 h1 h2 h3 st
  subst h1; subst h2; subst h3
  exact ⟨v, (T.setVm vm₁).calling g' mk (Value.ref b :: As).toArray, t, U', L, hT, X', hL, e1, e2, hq, st⟩
section
variable {y : MethodName} {bytes cc : ByteArray} {maxL nL mc ms n index : Nat} {ret : Option FieldType} {ws : List Cond} {rm : Room} {Pc : Array Value → State → Prop} {Qc : Array Value → State → Outcome → State → Prop} {XC : String → State → State → Prop} {free : Addr → Prop} {Ts : List Cond} {own C : String} {b : Addr} {As rest : List Value} {g : JFrame}
theorem vx_runVX {hh : List (Nat × Nat × Nat × Nat)} (S : CallFix p m c cc nL s args Ts own) (hM : vx_Met l y ws rm Pc Qc XC mc ms free) (cw : vx_CVW R s args own C index y bytes maxL ret hh ws rm mc ms n) (hp : PreV s H C b Pc As)
    (hg : g.method = m) (hn : As.length = n) (hsize : g.locals.size = nL) (hstack : g.stack = As.reverse ++ .ref b :: rest) (hW : 2 * g.monitorRoom + (rest.map fun v => v.category).sum ≤ 8) (hdg : decode cc g.pc = .ok (.invokevirtual index, 3)) (hf : cells + mc ≤ R.cells ∧ slots + ms ≤ R.slots) :
    vx_Run p l e R s m args below meth c H locs cells slots mc ms g rest (Qc (Value.ref b :: As).toArray) XC free := by
  obtain ⟨⟨hrc, hrs, hfr, hlo, hws, hcw⟩, hcode, hini, hy, hlen, hl, hin, hse⟩ := cw
  have hK : vx_Back l R p e below s args y 3 8 (PreOf R mc ms Pc) (PostOf Qc mc ms free) (vx_Post XC mc ms free) := vx_backW (hh := hh) (bytes := bytes) (maxL := maxL) (ret := ret) hM hp.1 hrc hrs hfr hlo hws hcw (fun a' U hW => word_at hW (Or.inl (by first | rfl | simp [Cond.onTables, Cond.keeps, Cond.steady])) hini)
  obtain ⟨hx, hb, hml, ho, -⟩ := S
  obtain ⟨-, ⟨cellB, hcB, hoB, hclB⟩, hPc⟩ := hp
  intro T hT X
  rcases vx_callVX X hx (C := C) (hh := hh) (bytes := bytes) (maxL := maxL) (ret := ret) ho hl hin hse hcode hy hK (by rw [hT]; exact hcB) hoB hclB hg (hsize.trans hml.symm) (argsL := As) (rest := rest) (fun sig h => hn.trans (hlen sig h)) hstack hW (by rw [hb]; exact hdg)
    (fun vm₁ hW₁ => ⟨hf.1, hf.2, hPc (T.setVm vm₁) hT hW₁⟩) with ⟨v, vm₁, ⟨U', l2, c2, s2⟩, hW₁, X', ⟨g', mk, t, L, e1, e2, hq, h1, hL, h2, h3⟩, st⟩ | ⟨q, vm₁, ⟨U', l2, c2, s2⟩, hW₁, X', ⟨g', mk, t, L, E, ce, e1, e2, hq, hce, hcv, hcl, h1, hL, h2, h3⟩, st⟩
  · dsimp only [Pt.U, Pt.locs, Pt.cells, Pt.slots] at X' e1 e2 h1 h2 h3 st
    subst h1; subst h2; subst h3
    exact Or.inl ⟨v, (T.setVm vm₁).calling g' mk (Value.ref b :: As).toArray, t, U', L, hT, X', hL, e1, e2, hq, st⟩
  · dsimp only [Pt.U, Pt.locs, Pt.cells, Pt.slots] at X' e1 e2 h1 h2 h3 st hcl
    subst h1; subst h2; subst h3
    exact Or.inr ⟨q, (T.setVm vm₁).calling g' mk (Value.ref b :: As).toArray, t, U', L, E, ce, hT, X', hL, e1, e2, hq, hce, hcv, vx_cls hW₁ hcl, st⟩
theorem vx_runSX {hh : List (Nat × Nat × Nat × Nat)} (S : CallFix p m c cc nL s args Ts own) (hM : vx_Met l y ws rm Pc Qc XC mc ms free) (cw : vx_CSW R s args own index y bytes maxL ret hh ws rm mc ms n) (hp : PreS s H Pc As)
    (hg : g.method = m) (hn : As.length = n) (hsize : g.locals.size = nL) (hstack : g.stack = As.reverse ++ rest) (hW : 2 * g.monitorRoom + (rest.map fun v => v.category).sum ≤ 8) (hdg : decode cc g.pc = .ok (.invokestatic index, 3)) (hf : cells + mc ≤ R.cells ∧ slots + ms ≤ R.slots) :
    vx_Run p l e R s m args below meth c H locs cells slots mc ms g rest (Qc As.toArray) XC free := by
  obtain ⟨⟨hrc, hrs, hfr, hlo, hws, hcw⟩, hcode, hini, hy, hlen, hl, hstt⟩ := cw
  have hK : vx_Back l R p e below s args y 3 8 (PreOf R mc ms Pc) (PostOf Qc mc ms free) (vx_Post XC mc ms free) := vx_backW (hh := hh) (bytes := bytes) (maxL := maxL) (ret := ret) hM hp.1 hrc hrs hfr hlo hws hcw (fun a' U hW => word_at hW (Or.inl (by first | rfl | simp [Cond.onTables, Cond.keeps, Cond.steady])) hini)
  obtain ⟨hx, hb, hml, ho, -⟩ := S
  intro T hT X
  rcases vx_callSX X hx (hh := hh) (bytes := bytes) (maxL := maxL) (ret := ret) ho hl hstt hini hcode hy hK hg (hsize.trans hml.symm) (argsL := As) (rest := rest) (fun sig h => hn.trans (hlen sig h)) hstack hW (by rw [hb]; exact hdg)
    (fun vm₁ hW₁ => ⟨hf.1, hf.2, hp.2 (T.setVm vm₁) hT hW₁⟩) with ⟨v, vm₁, ⟨U', l2, c2, s2⟩, hW₁, X', ⟨g', mk, t, L, e1, e2, hq, h1, hL, h2, h3⟩, st⟩ | ⟨q, vm₁, ⟨U', l2, c2, s2⟩, hW₁, X', ⟨g', mk, t, L, E, ce, e1, e2, hq, hce, hcv, hcl, h1, hL, h2, h3⟩, st⟩
  · dsimp only [Pt.U, Pt.locs, Pt.cells, Pt.slots] at X' e1 e2 h1 h2 h3 st
    subst h1; subst h2; subst h3
    exact Or.inl ⟨v, (T.setVm vm₁).calling g' mk As.toArray, t, U', L, hT, X', hL, e1, e2, hq, st⟩
  · dsimp only [Pt.U, Pt.locs, Pt.cells, Pt.slots] at X' e1 e2 h1 h2 h3 st hcl
    subst h1; subst h2; subst h3
    exact Or.inr ⟨q, (T.setVm vm₁).calling g' mk As.toArray, t, U', L, E, ce, hT, X', hL, e1, e2, hq, hce, hcv, vx_cls hW₁ hcl, st⟩
end
end VXH
theorem vx_ofWH {l : Launch} {y : MethodName} {ws ws' : List Cond} {rm : Room} {Pc : Array Value → State → Prop} {Qc : Array Value → State → Outcome → State → Prop} {XC : String → State → State → Prop} {mc ms : Nat} {free : Addr → Prop} {cc : ByteArray} {maxL : Nat} {ret : Option FieldType} {hh : List (Nat × Nat × Nat × Nat)}
    (hy : plainName y.cls = true) (hw : ws = Cond.codeWith y cc maxL ret hh :: ws')
    (body : ∀ p e s m args below meth c s₁, BodyLoose p l y (headSpec ws rm) cc maxL ret e s m args below meth c s₁ → c.maxLocals = maxL → Pc args s →
      W p l e (headSpec ws rm).room s m args below meth c s.heap [] 0 0 (vx_MQ below Qc XC args s mc ms free) (entryFrame m args maxL)) : vx_Met l y ws rm Pc Qc XC mc ms free := by
  refine MetFree.of_bodyS (code := cc) (maxLocals := maxL) (ret := ret) hy ?_ ?_
  · intro args s m h hn
    obtain ⟨m9, meth, c, hn9, h1, h2, h3, h4, -, h5, h6, -⟩ := Cond.codeWith_spec (atoms_spec (ws := ws) h _ (by rw [hw]; exact List.mem_cons_self))
    cases hn.symm.trans hn9
    exact ⟨meth, c, h1, h2, h3, h4, h5, h6⟩
  · intro p e s m args below meth c s₁ B hml hP _
    have hh0 : s₁.heap = s.heap := by rw [B.state]; rfl
    obtain ⟨t, a1, o, b1, b2, b3⟩ := body p e s m args below meth c s₁ B hml hP s₁ hh0 (Stand.of_body B)
    exact ⟨t, o, a1, b1, b2, b3⟩
/-! ===== END ===== -/
end
section
/-! ===== BEGIN printed: names, fields, word lists, decode rows ===== -/
def RX0 : String := "FlightReader$Checkpoints"
def TX0 : u_T := fun k => match k with
  | 0 => ("FlightReader$Checkpoints", "count", "I", false)
  | 1 => ("FlightReader$Checkpoints", "places", "[I", true)
  | 2 => ("FlightReader$Checkpoints", "deltas", "[I", true)
  | 3 => ("FlightReader$Checkpoints", "deltaPlaces", "[I", true)
  | 4 => ("FlightReader$Checkpoints", "firstConstants", "[I", true)
  | 5 => ("FlightReader$Checkpoints", "constantCount", "I", false)
  | 6 => ("FlightReader$Checkpoints", "types", "[I", true)
  | 7 => ("FlightReader$Checkpoints", "keys", "[J", true)
  | _ => ("FlightReader$Checkpoints", "nodes", "[I", true)
def tyX0 : Nat → FieldType := fun k => match k with
  | 0 => .int
  | 1 => .array .int
  | 2 => .array .int
  | 3 => .array .int
  | 4 => .array .int
  | 5 => .int
  | 6 => .array .int
  | 7 => .array .long
  | _ => .array .int
abbrev wsX00 : List Cond := u_ws RX0 TX0 9
theorem nmX0 : ∀ a, a < 9 → ∀ b, b < 9 → a ≠ b → (TX0 a).2.1 ≠ (TX0 b).2.1 := by decide +kernel
theorem tyX0_ok : ∀ k, k < 9 → parseFieldDescriptor (TX0 k).2.2.1 = some (tyX0 k) := by decide +kernel
abbrev cX0_init : ByteArray := prog_2_method_1_code
def yX0_init : MethodName := ⟨RX0, "<init>", "()V"⟩
abbrev cX0_clear : ByteArray := prog_2_method_2_code
def yX0_clear : MethodName := ⟨RX0, "clear", "()V"⟩
abbrev cX0_read : ByteArray := prog_2_method_3_code
def yX0_read : MethodName := ⟨RX0, "read", "(LFlightReader$Source;LFlightReader$Chunk;LFlightReader$Values;I)V"⟩
abbrev cX0_link : ByteArray := prog_2_method_4_code
def yX0_link : MethodName := ⟨RX0, "link", "(LFlightReader$Source;LFlightReader$Chunk;)V"⟩
abbrev cX0_startingAt : ByteArray := prog_2_method_5_code
def yX0_startingAt : MethodName := ⟨RX0, "startingAt", "(I)I"⟩
def RX1 : String := "FlightReader$Chunk"
def TX1 : u_T := fun k => match k with
  | 0 => ("FlightReader$Chunk", "start", "I", false)
  | 1 => ("FlightReader$Chunk", "end", "I", false)
  | 2 => ("FlightReader$Chunk", "startTicks", "J", false)
  | 3 => ("FlightReader$Chunk", "ticksPerSecond", "J", false)
  | 4 => ("FlightReader$Chunk", "typeCount", "I", false)
  | 5 => ("FlightReader$Chunk", "types", "[LFlightReader$Type;", true)
  | 6 => ("FlightReader$Chunk", "constantCount", "I", false)
  | 7 => ("FlightReader$Chunk", "constantTypes", "[I", true)
  | 8 => ("FlightReader$Chunk", "constantKeys", "[J", true)
  | _ => ("FlightReader$Chunk", "constantNodes", "[I", true)
def tyX1 : Nat → FieldType := fun k => match k with
  | 0 => .int
  | 1 => .int
  | 2 => .long
  | 3 => .long
  | 4 => .int
  | 5 => .array (.object "FlightReader$Type")
  | 6 => .int
  | 7 => .array .int
  | 8 => .array .long
  | _ => .array .int
abbrev wsX10 : List Cond := u_ws RX1 TX1 10
theorem nmX1 : ∀ a, a < 10 → ∀ b, b < 10 → a ≠ b → (TX1 a).2.1 ≠ (TX1 b).2.1 := by decide +kernel
theorem tyX1_ok : ∀ k, k < 10 → parseFieldDescriptor (TX1 k).2.2.1 = some (tyX1 k) := by decide +kernel
abbrev cX1_init : ByteArray := prog_3_method_1_code
def yX1_init : MethodName := ⟨RX1, "<init>", "()V"⟩
abbrev cX1_readHeader : ByteArray := prog_3_method_2_code
def yX1_readHeader : MethodName := ⟨RX1, "readHeader", "(LFlightReader$Source;I)V"⟩
abbrev cX1_readMetadata : ByteArray := prog_3_method_3_code
def yX1_readMetadata : MethodName := ⟨RX1, "readMetadata", "(LFlightReader$Source;)V"⟩
abbrev cX1_fieldsHaveTypes : ByteArray := prog_3_method_4_code
def yX1_fieldsHaveTypes : MethodName := ⟨RX1, "fieldsHaveTypes", "()Z"⟩
abbrev cX1_someHoldItself : ByteArray := prog_3_method_5_code
def yX1_someHoldItself : MethodName := ⟨RX1, "someHoldItself", "()Z"⟩
abbrev cX1_holdsOnly : ByteArray := prog_3_method_6_code
def yX1_holdsOnly : MethodName := ⟨RX1, "holdsOnly", "(LFlightReader$Type;I)Z"⟩
abbrev cX1_typeWithId : ByteArray := prog_3_method_7_code
def yX1_typeWithId : MethodName := ⟨RX1, "typeWithId", "(I)I"⟩
abbrev cX1_isPlain : ByteArray := prog_3_method_8_code
def yX1_isPlain : MethodName := ⟨RX1, "isPlain", "(I)Z"⟩
abbrev cX1_isStructure : ByteArray := prog_3_method_9_code
def yX1_isStructure : MethodName := ⟨RX1, "isStructure", "(I)Z"⟩
abbrev cX1_isForEvents : ByteArray := prog_3_method_10_code
def yX1_isForEvents : MethodName := ⟨RX1, "isForEvents", "(I)Z"⟩
abbrev cX1_addConstant : ByteArray := prog_3_method_11_code
def yX1_addConstant : MethodName := ⟨RX1, "addConstant", "(IJI)V"⟩
abbrev cX1_constant : ByteArray := prog_3_method_12_code
def yX1_constant : MethodName := ⟨RX1, "constant", "(IJ)I"⟩
def RX2 : String := "FlightReader$Filter"
def TX2 : u_T := fun k => match k with
  | 0 => ("FlightReader$Filter", "typed", "[C", true)
  | 1 => ("FlightReader$Filter", "length", "I", false)
  | 2 => ("FlightReader$Filter", "name", "I", false)
  | 3 => ("FlightReader$Filter", "count", "I", false)
  | 4 => ("FlightReader$Filter", "paths", "[I", true)
  | 5 => ("FlightReader$Filter", "signs", "[C", true)
  | 6 => ("FlightReader$Filter", "numbers", "[J", true)
  | 7 => ("FlightReader$Filter", "state", "I", false)
  | 8 => ("FlightReader$Filter", "path", "I", false)
  | 9 => ("FlightReader$Filter", "steps", "I", false)
  | 10 => ("FlightReader$Filter", "digits", "I", false)
  | _ => ("FlightReader$Filter", "negative", "Z", false)
def tyX2 : Nat → FieldType := fun k => match k with
  | 0 => .array .char
  | 1 => .int
  | 2 => .int
  | 3 => .int
  | 4 => .array .int
  | 5 => .array .char
  | 6 => .array .long
  | 7 => .int
  | 8 => .int
  | 9 => .int
  | 10 => .int
  | _ => .boolean
abbrev wsX20 : List Cond := u_ws RX2 TX2 12
theorem nmX2 : ∀ a, a < 12 → ∀ b, b < 12 → a ≠ b → (TX2 a).2.1 ≠ (TX2 b).2.1 := by decide +kernel
theorem tyX2_ok : ∀ k, k < 12 → parseFieldDescriptor (TX2 k).2.2.1 = some (tyX2 k) := by decide +kernel
abbrev cX2_init : ByteArray := prog_4_method_1_code
def yX2_init : MethodName := ⟨RX2, "<init>", "()V"⟩
abbrev cX2_append : ByteArray := prog_4_method_2_code
def yX2_append : MethodName := ⟨RX2, "append", "(C)Z"⟩
abbrev cX2_read : ByteArray := prog_4_method_3_code
def yX2_read : MethodName := ⟨RX2, "read", "()I"⟩
abbrev cX2_stateAfter : ByteArray := prog_4_method_4_code
def yX2_stateAfter : MethodName := ⟨RX2, "stateAfter", "(C)I"⟩
abbrev cX2_takeName : ByteArray := prog_4_method_5_code
def yX2_takeName : MethodName := ⟨RX2, "takeName", "(C)I"⟩
abbrev cX2_takeStep : ByteArray := prog_4_method_6_code
def yX2_takeStep : MethodName := ⟨RX2, "takeStep", "(C)I"⟩
abbrev cX2_takeDot : ByteArray := prog_4_method_7_code
def yX2_takeDot : MethodName := ⟨RX2, "takeDot", "()I"⟩
abbrev cX2_takeSign : ByteArray := prog_4_method_8_code
def yX2_takeSign : MethodName := ⟨RX2, "takeSign", "(C)I"⟩
abbrev cX2_takeMinus : ByteArray := prog_4_method_9_code
def yX2_takeMinus : MethodName := ⟨RX2, "takeMinus", "()I"⟩
abbrev cX2_takeDigit : ByteArray := prog_4_method_10_code
def yX2_takeDigit : MethodName := ⟨RX2, "takeDigit", "(C)I"⟩
abbrev cX2_passes : ByteArray := prog_4_method_11_code
def yX2_passes : MethodName := ⟨RX2, "passes", "(LFlightReader$Recording;I)Z"⟩
abbrev cX2_holds : ByteArray := prog_4_method_12_code
def yX2_holds : MethodName := ⟨RX2, "holds", "(CJJ)Z"⟩
def RX3 : String := "FlightReader$Groups"
def TX3 : u_T := fun k => match k with
  | 0 => ("FlightReader$Groups", "count", "I", false)
  | 1 => ("FlightReader$Groups", "keys", "[J", true)
  | 2 => ("FlightReader$Groups", "events", "[I", true)
  | 3 => ("FlightReader$Groups", "numbers", "[I", true)
  | 4 => ("FlightReader$Groups", "sums", "[J", true)
  | 5 => ("FlightReader$Groups", "leasts", "[J", true)
  | _ => ("FlightReader$Groups", "greatests", "[J", true)
def tyX3 : Nat → FieldType := fun k => match k with
  | 0 => .int
  | 1 => .array .long
  | 2 => .array .int
  | 3 => .array .int
  | 4 => .array .long
  | 5 => .array .long
  | _ => .array .long
abbrev wsX30 : List Cond := u_ws RX3 TX3 7
theorem nmX3 : ∀ a, a < 7 → ∀ b, b < 7 → a ≠ b → (TX3 a).2.1 ≠ (TX3 b).2.1 := by decide +kernel
theorem tyX3_ok : ∀ k, k < 7 → parseFieldDescriptor (TX3 k).2.2.1 = some (tyX3 k) := by decide +kernel
abbrev cX3_init : ByteArray := prog_5_method_1_code
def yX3_init : MethodName := ⟨RX3, "<init>", "()V"⟩
abbrev cX3_clear : ByteArray := prog_5_method_2_code
def yX3_clear : MethodName := ⟨RX3, "clear", "()V"⟩
abbrev cX3_enter : ByteArray := prog_5_method_3_code
def yX3_enter : MethodName := ⟨RX3, "enter", "(J)I"⟩
abbrev cX3_add : ByteArray := prog_5_method_4_code
def yX3_add : MethodName := ⟨RX3, "add", "(IJ)V"⟩
def RX4 : String := "FlightReader$Recording"
def TX4 : u_T := fun k => match k with
  | 0 => ("FlightReader$Recording", "chunkCount", "I", false)
  | 1 => ("FlightReader$Recording", "chunks", "[LFlightReader$Chunk;", true)
  | 2 => ("FlightReader$Recording", "values", "LFlightReader$Values;", true)
  | 3 => ("FlightReader$Recording", "eventCount", "I", false)
  | 4 => ("FlightReader$Recording", "eventChunk", "[I", true)
  | 5 => ("FlightReader$Recording", "eventTicks", "[J", true)
  | _ => ("FlightReader$Recording", "eventNode", "[I", true)
def tyX4 : Nat → FieldType := fun k => match k with
  | 0 => .int
  | 1 => .array (.object "FlightReader$Chunk")
  | 2 => .object "FlightReader$Values"
  | 3 => .int
  | 4 => .array .int
  | 5 => .array .long
  | _ => .array .int
abbrev wsX40 : List Cond := u_ws RX4 TX4 7
theorem nmX4 : ∀ a, a < 7 → ∀ b, b < 7 → a ≠ b → (TX4 a).2.1 ≠ (TX4 b).2.1 := by decide +kernel
theorem tyX4_ok : ∀ k, k < 7 → parseFieldDescriptor (TX4 k).2.2.1 = some (tyX4 k) := by decide +kernel
abbrev cX4_init : ByteArray := prog_6_method_1_code
def yX4_init : MethodName := ⟨RX4, "<init>", "()V"⟩
abbrev cX4_clear : ByteArray := prog_6_method_2_code
def yX4_clear : MethodName := ⟨RX4, "clear", "()V"⟩
abbrev cX4_readChunk : ByteArray := prog_6_method_3_code
def yX4_readChunk : MethodName := ⟨RX4, "readChunk", "(LFlightReader$Source;LFlightReader$Checkpoints;I)I"⟩
abbrev cX4_readEvent : ByteArray := prog_6_method_4_code
def yX4_readEvent : MethodName := ⟨RX4, "readEvent", "(LFlightReader$Source;LFlightReader$Chunk;II)V"⟩
abbrev cX4_nanosSinceStart : ByteArray := prog_6_method_5_code
def yX4_nanosSinceStart : MethodName := ⟨RX4, "nanosSinceStart", "(I)J"⟩
abbrev cX4_find : ByteArray := prog_6_method_6_code
def yX4_find : MethodName := ⟨RX4, "find", "(II)I"⟩
abbrev cX4_constantFor : ByteArray := prog_6_method_7_code
def yX4_constantFor : MethodName := ⟨RX4, "constantFor", "(LFlightReader$Chunk;I)I"⟩
abbrev cX4_isKey : ByteArray := prog_6_method_8_code
def yX4_isKey : MethodName := ⟨RX4, "isKey", "(I)Z"⟩
def RX5 : String := "FlightReader$Source"
def TX5 : u_T := fun k => match k with
  | 0 => ("FlightReader$Source", "bytes", "[B", true)
  | 1 => ("FlightReader$Source", "fed", "I", false)
  | 2 => ("FlightReader$Source", "total", "I", false)
  | 3 => ("FlightReader$Source", "pos", "I", false)
  | 4 => ("FlightReader$Source", "limit", "I", false)
  | 5 => ("FlightReader$Source", "idPlace", "I", false)
  | 6 => ("FlightReader$Source", "faultKind", "I", false)
  | _ => ("FlightReader$Source", "faultPlace", "I", false)
def tyX5 : Nat → FieldType := fun k => match k with
  | 0 => .array .byte
  | 1 => .int
  | 2 => .int
  | 3 => .int
  | 4 => .int
  | 5 => .int
  | 6 => .int
  | _ => .int
abbrev wsX50 : List Cond := u_ws RX5 TX5 8
theorem nmX5 : ∀ a, a < 8 → ∀ b, b < 8 → a ≠ b → (TX5 a).2.1 ≠ (TX5 b).2.1 := by decide +kernel
theorem tyX5_ok : ∀ k, k < 8 → parseFieldDescriptor (TX5 k).2.2.1 = some (tyX5 k) := by decide +kernel
abbrev cX5_init : ByteArray := prog_7_method_1_code
def yX5_init : MethodName := ⟨RX5, "<init>", "()V"⟩
abbrev cX5_append : ByteArray := prog_7_method_2_code
def yX5_append : MethodName := ⟨RX5, "append", "(II)Z"⟩
abbrev cX5_rewind : ByteArray := prog_7_method_3_code
def yX5_rewind : MethodName := ⟨RX5, "rewind", "()I"⟩
abbrev cX5_fail : ByteArray := prog_7_method_4_code
def yX5_fail : MethodName := ⟨RX5, "fail", "(II)V"⟩
abbrev cX5_byteAt : ByteArray := prog_7_method_5_code
def yX5_byteAt : MethodName := ⟨RX5, "byteAt", "(I)I"⟩
abbrev cX5_fixedAt : ByteArray := prog_7_method_6_code
def yX5_fixedAt : MethodName := ⟨RX5, "fixedAt", "(II)J"⟩
abbrev cX5_fixed : ByteArray := prog_7_method_7_code
def yX5_fixed : MethodName := ⟨RX5, "fixed", "(I)J"⟩
abbrev cX5_oneByte : ByteArray := prog_7_method_8_code
def yX5_oneByte : MethodName := ⟨RX5, "oneByte", "()I"⟩
abbrev cX5_number : ByteArray := prog_7_method_9_code
def yX5_number : MethodName := ⟨RX5, "number", "()J"⟩
abbrev cX5_count : ByteArray := prog_7_method_10_code
def yX5_count : MethodName := ⟨RX5, "count", "()I"⟩
abbrev cX5_head : ByteArray := prog_7_method_11_code
def yX5_head : MethodName := ⟨RX5, "head", "(II)I"⟩
abbrev cX5_requireEventEnd : ByteArray := prog_7_method_12_code
def yX5_requireEventEnd : MethodName := ⟨RX5, "requireEventEnd", "()V"⟩
abbrev cX5_utf8 : ByteArray := prog_7_method_13_code
def yX5_utf8 : MethodName := ⟨RX5, "utf8", "(I)C"⟩
def RX6 : String := "FlightReader$Tally"
def TX6 : u_T := fun k => match k with
  | 0 => ("FlightReader$Tally", "count", "I", false)
  | _ => ("FlightReader$Tally", "sorted", "[J", true)
def tyX6 : Nat → FieldType := fun k => match k with
  | 0 => .int
  | _ => .array .long
abbrev wsX60 : List Cond := u_ws RX6 TX6 2
theorem nmX6 : ∀ a, a < 2 → ∀ b, b < 2 → a ≠ b → (TX6 a).2.1 ≠ (TX6 b).2.1 := by decide +kernel
theorem tyX6_ok : ∀ k, k < 2 → parseFieldDescriptor (TX6 k).2.2.1 = some (tyX6 k) := by decide +kernel
abbrev cX6_init : ByteArray := prog_8_method_1_code
def yX6_init : MethodName := ⟨RX6, "<init>", "()V"⟩
abbrev cX6_add : ByteArray := prog_8_method_2_code
def yX6_add : MethodName := ⟨RX6, "add", "(J)V"⟩
abbrev cX6_sum : ByteArray := prog_8_method_3_code
def yX6_sum : MethodName := ⟨RX6, "sum", "()J"⟩
abbrev cX6_inOrder : ByteArray := prog_8_method_4_code
def yX6_inOrder : MethodName := ⟨RX6, "inOrder", "(I)J"⟩
abbrev cX6_mean : ByteArray := prog_8_method_5_code
def yX6_mean : MethodName := ⟨RX6, "mean", "()J"⟩
def RX7 : String := "FlightReader$Type"
def TX7 : u_T := fun k => match k with
  | 0 => ("FlightReader$Type", "id", "I", false)
  | 1 => ("FlightReader$Type", "name", "I", false)
  | 2 => ("FlightReader$Type", "forEvents", "Z", false)
  | 3 => ("FlightReader$Type", "fieldCount", "I", false)
  | 4 => ("FlightReader$Type", "fieldNames", "[I", true)
  | 5 => ("FlightReader$Type", "fieldTypes", "[I", true)
  | _ => ("FlightReader$Type", "fieldFlags", "[I", true)
def tyX7 : Nat → FieldType := fun k => match k with
  | 0 => .int
  | 1 => .int
  | 2 => .boolean
  | 3 => .int
  | 4 => .array .int
  | 5 => .array .int
  | _ => .array .int
abbrev wsX70 : List Cond := u_ws RX7 TX7 7
theorem nmX7 : ∀ a, a < 7 → ∀ b, b < 7 → a ≠ b → (TX7 a).2.1 ≠ (TX7 b).2.1 := by decide +kernel
theorem tyX7_ok : ∀ k, k < 7 → parseFieldDescriptor (TX7 k).2.2.1 = some (tyX7 k) := by decide +kernel
abbrev cX7_init : ByteArray := prog_9_method_1_code
def yX7_init : MethodName := ⟨RX7, "<init>", "()V"⟩
abbrev cX7_read : ByteArray := prog_9_method_2_code
def yX7_read : MethodName := ⟨RX7, "read", "(LFlightReader$Source;I)V"⟩
abbrev cX7_readField : ByteArray := prog_9_method_3_code
def yX7_readField : MethodName := ⟨RX7, "readField", "(LFlightReader$Source;)V"⟩
abbrev cX7_fieldNamed : ByteArray := prog_9_method_4_code
def yX7_fieldNamed : MethodName := ⟨RX7, "fieldNamed", "(I)I"⟩
def RX8 : String := "FlightReader$Values"
def TX8 : u_T := fun k => match k with
  | 0 => ("FlightReader$Values", "size", "I", false)
  | 1 => ("FlightReader$Values", "kinds", "[I", true)
  | 2 => ("FlightReader$Values", "bits", "[J", true)
  | 3 => ("FlightReader$Values", "refs", "[I", true)
  | 4 => ("FlightReader$Values", "ends", "[I", true)
  | 5 => ("FlightReader$Values", "letterCount", "I", false)
  | _ => ("FlightReader$Values", "letters", "[C", true)
def tyX8 : Nat → FieldType := fun k => match k with
  | 0 => .int
  | 1 => .array .int
  | 2 => .array .long
  | 3 => .array .int
  | 4 => .array .int
  | 5 => .int
  | _ => .array .char
abbrev wsX80 : List Cond := u_ws RX8 TX8 7
theorem nmX8 : ∀ a, a < 7 → ∀ b, b < 7 → a ≠ b → (TX8 a).2.1 ≠ (TX8 b).2.1 := by decide +kernel
theorem tyX8_ok : ∀ k, k < 7 → parseFieldDescriptor (TX8 k).2.2.1 = some (tyX8 k) := by decide +kernel
abbrev cX8_init : ByteArray := prog_10_method_1_code
def yX8_init : MethodName := ⟨RX8, "<init>", "()V"⟩
abbrev cX8_clear : ByteArray := prog_10_method_2_code
def yX8_clear : MethodName := ⟨RX8, "clear", "()V"⟩
abbrev cX8_read : ByteArray := prog_10_method_3_code
def yX8_read : MethodName := ⟨RX8, "read", "(LFlightReader$Source;LFlightReader$Chunk;III)I"⟩
abbrev cX8_put : ByteArray := prog_10_method_4_code
def yX8_put : MethodName := ⟨RX8, "put", "(IIJI)V"⟩
abbrev cX8_readPlain : ByteArray := prog_10_method_5_code
def yX8_readPlain : MethodName := ⟨RX8, "readPlain", "(LFlightReader$Source;I)J"⟩
abbrev cX8_readText : ByteArray := prog_10_method_6_code
def yX8_readText : MethodName := ⟨RX8, "readText", "(LFlightReader$Source;I)V"⟩
abbrev cX8_addLetter : ByteArray := prog_10_method_7_code
def yX8_addLetter : MethodName := ⟨RX8, "addLetter", "(C)V"⟩
abbrev cX8_isNumber : ByteArray := prog_10_method_8_code
def yX8_isNumber : MethodName := ⟨RX8, "isNumber", "(I)Z"⟩
abbrev cX8_part : ByteArray := prog_10_method_9_code
def yX8_part : MethodName := ⟨RX8, "part", "(LFlightReader$Chunk;II)I"⟩
def RX9 : String := "FlightReader"
def TX9 : u_T := fun k => match k with
  | 0 => ("FlightReader", "source", "LFlightReader$Source;", true)
  | 1 => ("FlightReader", "checkpoints", "LFlightReader$Checkpoints;", true)
  | 2 => ("FlightReader", "recording", "LFlightReader$Recording;", false)
  | 3 => ("FlightReader", "spare", "LFlightReader$Recording;", false)
  | 4 => ("FlightReader", "filter", "LFlightReader$Filter;", true)
  | 5 => ("FlightReader", "chosen", "[I", true)
  | 6 => ("FlightReader", "chosenCount", "I", false)
  | 7 => ("FlightReader", "misfitPlace", "I", false)
  | 8 => ("FlightReader", "tally", "LFlightReader$Tally;", true)
  | _ => ("FlightReader", "groups", "LFlightReader$Groups;", true)
def tyX9 : Nat → FieldType := fun k => match k with
  | 0 => .object "FlightReader$Source"
  | 1 => .object "FlightReader$Checkpoints"
  | 2 => .object "FlightReader$Recording"
  | 3 => .object "FlightReader$Recording"
  | 4 => .object "FlightReader$Filter"
  | 5 => .array .int
  | 6 => .int
  | 7 => .int
  | 8 => .object "FlightReader$Tally"
  | _ => .object "FlightReader$Groups"
abbrev wsX90 : List Cond := u_ws RX9 TX9 10
theorem nmX9 : ∀ a, a < 10 → ∀ b, b < 10 → a ≠ b → (TX9 a).2.1 ≠ (TX9 b).2.1 := by decide +kernel
theorem tyX9_ok : ∀ k, k < 10 → parseFieldDescriptor (TX9 k).2.2.1 = some (tyX9 k) := by decide +kernel
abbrev cX9_init : ByteArray := prog_1_method_1_code
def yX9_init : MethodName := ⟨RX9, "<init>", "()V"⟩
abbrev cX9_feed : ByteArray := prog_1_method_2_code
def yX9_feed : MethodName := ⟨RX9, "feed", "(II)Z"⟩
abbrev cX9_open : ByteArray := prog_1_method_3_code
def yX9_open : MethodName := ⟨RX9, "open", "()I"⟩
abbrev cX9_fault : ByteArray := prog_1_method_4_code
def yX9_fault : MethodName := ⟨RX9, "fault", "(I)I"⟩
abbrev cX9_chunks : ByteArray := prog_1_method_5_code
def yX9_chunks : MethodName := ⟨RX9, "chunks", "()I"⟩
abbrev cX9_event : ByteArray := prog_1_method_6_code
def yX9_event : MethodName := ⟨RX9, "event", "(II)J"⟩
abbrev cX9_kind : ByteArray := prog_1_method_7_code
def yX9_kind : MethodName := ⟨RX9, "kind", "(II)I"⟩
abbrev cX9_value : ByteArray := prog_1_method_8_code
def yX9_value : MethodName := ⟨RX9, "value", "(II)J"⟩
abbrev cX9_letter : ByteArray := prog_1_method_9_code
def yX9_letter : MethodName := ⟨RX9, "letter", "(III)I"⟩
abbrev cX9_type : ByteArray := prog_1_method_10_code
def yX9_type : MethodName := ⟨RX9, "type", "(C)Z"⟩
abbrev cX9_select : ByteArray := prog_1_method_11_code
def yX9_select : MethodName := ⟨RX9, "select", "(Z)I"⟩
abbrev cX9_misfit : ByteArray := prog_1_method_12_code
def yX9_misfit : MethodName := ⟨RX9, "misfit", "()I"⟩
abbrev cX9_selected : ByteArray := prog_1_method_13_code
def yX9_selected : MethodName := ⟨RX9, "selected", "(I)I"⟩
abbrev cX9_fold : ByteArray := prog_1_method_14_code
def yX9_fold : MethodName := ⟨RX9, "fold", "(II)J"⟩
abbrev cX9_group : ByteArray := prog_1_method_15_code
def yX9_group : MethodName := ⟨RX9, "group", "(II)I"⟩
abbrev cX9_grouped : ByteArray := prog_1_method_16_code
def yX9_grouped : MethodName := ⟨RX9, "grouped", "(II)J"⟩
abbrev cX9_requireEvent : ByteArray := prog_1_method_17_code
def yX9_requireEvent : MethodName := ⟨RX9, "requireEvent", "(I)V"⟩
abbrev cX9_chooseAll : ByteArray := prog_1_method_18_code
def yX9_chooseAll : MethodName := ⟨RX9, "chooseAll", "()V"⟩
abbrev cX9_tallyChosen : ByteArray := prog_1_method_19_code
def yX9_tallyChosen : MethodName := ⟨RX9, "tallyChosen", "(I)V"⟩
def RX10 : String := "FlightReaderModel"
def TX10 : u_T := fun k => match k with
  | 0 => ("FlightReaderModel", "code", "I", false)
  | 1 => ("FlightReaderModel", "fed", "[I", true)
  | 2 => ("FlightReaderModel", "count", "I", false)
  | 3 => ("FlightReaderModel", "side", "I", false)
  | 4 => ("FlightReaderModel", "bytes", "[I", true)
  | 5 => ("FlightReaderModel", "size", "[I", true)
  | 6 => ("FlightReaderModel", "chunks", "[I", true)
  | 7 => ("FlightReaderModel", "chunkAt", "[I", true)
  | 8 => ("FlightReaderModel", "events", "[I", true)
  | 9 => ("FlightReaderModel", "eventAt", "[I", true)
  | 10 => ("FlightReaderModel", "eventChunk", "[I", true)
  | 11 => ("FlightReaderModel", "types", "[I", true)
  | 12 => ("FlightReaderModel", "typeId", "[J", true)
  | 13 => ("FlightReaderModel", "typeName", "[I", true)
  | 14 => ("FlightReaderModel", "typeKind", "[I", true)
  | 15 => ("FlightReaderModel", "fields", "[I", true)
  | 16 => ("FlightReaderModel", "fieldName", "[I", true)
  | 17 => ("FlightReaderModel", "fieldType", "[J", true)
  | 18 => ("FlightReaderModel", "fieldFlags", "[I", true)
  | 19 => ("FlightReaderModel", "of", "I", false)
  | 20 => ("FlightReaderModel", "slot", "I", false)
  | 21 => ("FlightReaderModel", "at", "I", false)
  | 22 => ("FlightReaderModel", "limit", "I", false)
  | 23 => ("FlightReaderModel", "checks", "Z", false)
  | 24 => ("FlightReaderModel", "values", "I", false)
  | 25 => ("FlightReaderModel", "fault", "I", false)
  | 26 => ("FlightReaderModel", "place", "I", false)
  | 27 => ("FlightReaderModel", "told", "I", false)
  | 28 => ("FlightReaderModel", "toldPlace", "I", false)
  | 29 => ("FlightReaderModel", "depth", "I", false)
  | 30 => ("FlightReaderModel", "left", "[I", true)
  | 31 => ("FlightReaderModel", "openType", "[J", true)
  | 32 => ("FlightReaderModel", "openNext", "[I", true)
  | 33 => ("FlightReaderModel", "spot", "I", false)
  | 34 => ("FlightReaderModel", "spotType", "J", false)
  | 35 => ("FlightReaderModel", "spotFlags", "I", false)
  | 36 => ("FlightReaderModel", "spotKind", "I", false)
  | 37 => ("FlightReaderModel", "typed", "[I", true)
  | 38 => ("FlightReaderModel", "letters", "I", false)
  | 39 => ("FlightReaderModel", "misfit", "I", false)
  | 40 => ("FlightReaderModel", "wanted", "I", false)
  | 41 => ("FlightReaderModel", "comparisons", "I", false)
  | 42 => ("FlightReaderModel", "path", "[I", true)
  | 43 => ("FlightReaderModel", "operator", "[I", true)
  | 44 => ("FlightReaderModel", "bound", "[J", true)
  | 45 => ("FlightReaderModel", "selected", "I", false)
  | 46 => ("FlightReaderModel", "selection", "[I", true)
  | 47 => ("FlightReaderModel", "numbers", "I", false)
  | 48 => ("FlightReaderModel", "number", "[J", true)
  | 49 => ("FlightReaderModel", "groups", "I", false)
  | 50 => ("FlightReaderModel", "groupKey", "[J", true)
  | 51 => ("FlightReaderModel", "groupEvents", "[I", true)
  | 52 => ("FlightReaderModel", "groupNumbers", "[I", true)
  | 53 => ("FlightReaderModel", "groupSum", "[J", true)
  | 54 => ("FlightReaderModel", "groupLeast", "[J", true)
  | 55 => ("FlightReaderModel", "groupMost", "[J", true)
  | 56 => ("FlightReaderModel", "lastId", "J", false)
  | _ => ("FlightReaderModel", "lastIdAt", "I", false)
def tyX10 : Nat → FieldType := fun k => match k with
  | 0 => .int
  | 1 => .array .int
  | 2 => .int
  | 3 => .int
  | 4 => .array .int
  | 5 => .array .int
  | 6 => .array .int
  | 7 => .array .int
  | 8 => .array .int
  | 9 => .array .int
  | 10 => .array .int
  | 11 => .array .int
  | 12 => .array .long
  | 13 => .array .int
  | 14 => .array .int
  | 15 => .array .int
  | 16 => .array .int
  | 17 => .array .long
  | 18 => .array .int
  | 19 => .int
  | 20 => .int
  | 21 => .int
  | 22 => .int
  | 23 => .boolean
  | 24 => .int
  | 25 => .int
  | 26 => .int
  | 27 => .int
  | 28 => .int
  | 29 => .int
  | 30 => .array .int
  | 31 => .array .long
  | 32 => .array .int
  | 33 => .int
  | 34 => .long
  | 35 => .int
  | 36 => .int
  | 37 => .array .int
  | 38 => .int
  | 39 => .int
  | 40 => .int
  | 41 => .int
  | 42 => .array .int
  | 43 => .array .int
  | 44 => .array .long
  | 45 => .int
  | 46 => .array .int
  | 47 => .int
  | 48 => .array .long
  | 49 => .int
  | 50 => .array .long
  | 51 => .array .int
  | 52 => .array .int
  | 53 => .array .long
  | 54 => .array .long
  | 55 => .array .long
  | 56 => .long
  | _ => .int
abbrev wsX100 : List Cond := u_ws RX10 TX10 58
theorem nmX10 : ∀ a, a < 58 → ∀ b, b < 58 → a ≠ b → (TX10 a).2.1 ≠ (TX10 b).2.1 := by decide +kernel
theorem tyX10_ok : ∀ k, k < 58 → parseFieldDescriptor (TX10 k).2.2.1 = some (tyX10 k) := by decide +kernel
abbrev cX10_init : ByteArray := prog_12_method_1_code
def yX10_init : MethodName := ⟨RX10, "<init>", "()V"⟩
abbrev cX10_thrown : ByteArray := prog_12_method_2_code
def yX10_thrown : MethodName := ⟨RX10, "thrown", "()I"⟩
abbrev cX10_fails : ByteArray := prog_12_method_3_code
def yX10_fails : MethodName := ⟨RX10, "fails", "(I)I"⟩
abbrev cX10_feed : ByteArray := prog_12_method_4_code
def yX10_feed : MethodName := ⟨RX10, "feed", "(II)Z"⟩
abbrev cX10_get : ByteArray := prog_12_method_5_code
def yX10_get : MethodName := ⟨RX10, "get", "(I)I"⟩
abbrev cX10_wrong : ByteArray := prog_12_method_6_code
def yX10_wrong : MethodName := ⟨RX10, "wrong", "(II)V"⟩
abbrev cX10_next : ByteArray := prog_12_method_7_code
def yX10_next : MethodName := ⟨RX10, "next", "()I"⟩
abbrev cX10_compressed : ByteArray := prog_12_method_8_code
def yX10_compressed : MethodName := ⟨RX10, "compressed", "()J"⟩
abbrev cX10_small : ByteArray := prog_12_method_9_code
def yX10_small : MethodName := ⟨RX10, "small", "()I"⟩
abbrev cX10_two : ByteArray := prog_12_method_10_code
def yX10_two : MethodName := ⟨RX10, "two", "(I)I"⟩
abbrev cX10_four : ByteArray := prog_12_method_11_code
def yX10_four : MethodName := ⟨RX10, "four", "(I)J"⟩
abbrev cX10_typeOf : ByteArray := prog_12_method_12_code
def yX10_typeOf : MethodName := ⟨RX10, "typeOf", "(JI)I"⟩
abbrev cX10_fieldOf : ByteArray := prog_12_method_13_code
def yX10_fieldOf : MethodName := ⟨RX10, "fieldOf", "(II)I"⟩
abbrev cX10_push : ByteArray := prog_12_method_14_code
def yX10_push : MethodName := ⟨RX10, "push", "(IJI)V"⟩
abbrev cX10_counted : ByteArray := prog_12_method_15_code
def yX10_counted : MethodName := ⟨RX10, "counted", "()V"⟩
abbrev cX10_begin : ByteArray := prog_12_method_16_code
def yX10_begin : MethodName := ⟨RX10, "begin", "(JI)V"⟩
abbrev cX10_finish : ByteArray := prog_12_method_17_code
def yX10_finish : MethodName := ⟨RX10, "finish", "()V"⟩
abbrev cX10_pass : ByteArray := prog_12_method_18_code
def yX10_pass : MethodName := ⟨RX10, "pass", "(JI)V"⟩
abbrev cX10_plain : ByteArray := prog_12_method_19_code
def yX10_plain : MethodName := ⟨RX10, "plain", "(I)V"⟩
abbrev cX10_text : ByteArray := prog_12_method_20_code
def yX10_text : MethodName := ⟨RX10, "text", "()V"⟩
abbrev cX10_character : ByteArray := prog_12_method_21_code
def yX10_character : MethodName := ⟨RX10, "character", "(I)I"⟩
abbrev cX10_open : ByteArray := prog_12_method_22_code
def yX10_open : MethodName := ⟨RX10, "open", "()I"⟩
abbrev cX10_header : ByteArray := prog_12_method_23_code
def yX10_header : MethodName := ⟨RX10, "header", "(I)V"⟩
abbrev cX10_chunk : ByteArray := prog_12_method_24_code
def yX10_chunk : MethodName := ⟨RX10, "chunk", "(I)I"⟩
abbrev cX10_begins : ByteArray := prog_12_method_25_code
def yX10_begins : MethodName := ⟨RX10, "begins", "(II)I"⟩
abbrev cX10_metadata : ByteArray := prog_12_method_26_code
def yX10_metadata : MethodName := ⟨RX10, "metadata", "(II)V"⟩
abbrev cX10_typeTold : ByteArray := prog_12_method_27_code
def yX10_typeTold : MethodName := ⟨RX10, "typeTold", "()V"⟩
abbrev cX10_fieldTold : ByteArray := prog_12_method_28_code
def yX10_fieldTold : MethodName := ⟨RX10, "fieldTold", "(I)V"⟩
abbrev cX10_structures : ByteArray := prog_12_method_29_code
def yX10_structures : MethodName := ⟨RX10, "structures", "(I)V"⟩
abbrev cX10_held : ByteArray := prog_12_method_30_code
def yX10_held : MethodName := ⟨RX10, "held", "(I)Z"⟩
abbrev cX10_checkpoint : ByteArray := prog_12_method_31_code
def yX10_checkpoint : MethodName := ⟨RX10, "checkpoint", "(I)I"⟩
abbrev cX10_toldEvent : ByteArray := prog_12_method_32_code
def yX10_toldEvent : MethodName := ⟨RX10, "toldEvent", "(IJ)V"⟩
abbrev cX10_isCheckpoint : ByteArray := prog_12_method_33_code
def yX10_isCheckpoint : MethodName := ⟨RX10, "isCheckpoint", "(III)Z"⟩
abbrev cX10_chain : ByteArray := prog_12_method_34_code
def yX10_chain : MethodName := ⟨RX10, "chain", "(II)V"⟩
abbrev cX10_fault : ByteArray := prog_12_method_35_code
def yX10_fault : MethodName := ⟨RX10, "fault", "(I)I"⟩
abbrev cX10_chunks : ByteArray := prog_12_method_36_code
def yX10_chunks : MethodName := ⟨RX10, "chunks", "()I"⟩
abbrev cX10_isEvent : ByteArray := prog_12_method_37_code
def yX10_isEvent : MethodName := ⟨RX10, "isEvent", "(I)Z"⟩
abbrev cX10_go : ByteArray := prog_12_method_38_code
def yX10_go : MethodName := ⟨RX10, "go", "(I)V"⟩
abbrev cX10_lower : ByteArray := prog_12_method_39_code
def yX10_lower : MethodName := ⟨RX10, "lower", "(JJ)J"⟩
abbrev cX10_nanos : ByteArray := prog_12_method_40_code
def yX10_nanos : MethodName := ⟨RX10, "nanos", "(JI)J"⟩
abbrev cX10_event : ByteArray := prog_12_method_41_code
def yX10_event : MethodName := ⟨RX10, "event", "(II)J"⟩
abbrev cX10_constant : ByteArray := prog_12_method_42_code
def yX10_constant : MethodName := ⟨RX10, "constant", "(JJ)I"⟩
abbrev cX10_settle : ByteArray := prog_12_method_43_code
def yX10_settle : MethodName := ⟨RX10, "settle", "()V"⟩
abbrev cX10_spotStructure : ByteArray := prog_12_method_44_code
def yX10_spotStructure : MethodName := ⟨RX10, "spotStructure", "()I"⟩
abbrev cX10_step : ByteArray := prog_12_method_45_code
def yX10_step : MethodName := ⟨RX10, "step", "(I)V"⟩
abbrev cX10_come : ByteArray := prog_12_method_46_code
def yX10_come : MethodName := ⟨RX10, "come", "(JI)V"⟩
abbrev cX10_lead : ByteArray := prog_12_method_47_code
def yX10_lead : MethodName := ⟨RX10, "lead", "(II)I"⟩
abbrev cX10_kind : ByteArray := prog_12_method_48_code
def yX10_kind : MethodName := ⟨RX10, "kind", "(II)I"⟩
abbrev cX10_worth : ByteArray := prog_12_method_49_code
def yX10_worth : MethodName := ⟨RX10, "worth", "()J"⟩
abbrev cX10_characterAt : ByteArray := prog_12_method_50_code
def yX10_characterAt : MethodName := ⟨RX10, "characterAt", "(I)I"⟩
abbrev cX10_value : ByteArray := prog_12_method_51_code
def yX10_value : MethodName := ⟨RX10, "value", "(II)J"⟩
abbrev cX10_letter : ByteArray := prog_12_method_52_code
def yX10_letter : MethodName := ⟨RX10, "letter", "(III)I"⟩
abbrev cX10_type : ByteArray := prog_12_method_53_code
def yX10_type : MethodName := ⟨RX10, "type", "(C)Z"⟩
abbrev cX10_letterAt : ByteArray := prog_12_method_54_code
def yX10_letterAt : MethodName := ⟨RX10, "letterAt", "(I)I"⟩
abbrev cX10_isDigit : ByteArray := prog_12_method_55_code
def yX10_isDigit : MethodName := ⟨RX10, "isDigit", "(I)Z"⟩
abbrev cX10_isStep : ByteArray := prog_12_method_56_code
def yX10_isStep : MethodName := ⟨RX10, "isStep", "(I)Z"⟩
abbrev cX10_isOperator : ByteArray := prog_12_method_57_code
def yX10_isOperator : MethodName := ⟨RX10, "isOperator", "(I)Z"⟩
abbrev cX10_filter : ByteArray := prog_12_method_58_code
def yX10_filter : MethodName := ⟨RX10, "filter", "()I"⟩
abbrev cX10_comparison : ByteArray := prog_12_method_59_code
def yX10_comparison : MethodName := ⟨RX10, "comparison", "(I)I"⟩
abbrev cX10_isNumber : ByteArray := prog_12_method_60_code
def yX10_isNumber : MethodName := ⟨RX10, "isNumber", "(II)Z"⟩
abbrev cX10_passes : ByteArray := prog_12_method_61_code
def yX10_passes : MethodName := ⟨RX10, "passes", "(I)Z"⟩
abbrev cX10_select : ByteArray := prog_12_method_62_code
def yX10_select : MethodName := ⟨RX10, "select", "(Z)I"⟩
abbrev cX10_misfit : ByteArray := prog_12_method_63_code
def yX10_misfit : MethodName := ⟨RX10, "misfit", "()I"⟩
abbrev cX10_selected : ByteArray := prog_12_method_64_code
def yX10_selected : MethodName := ⟨RX10, "selected", "(I)I"⟩
abbrev cX10_gather : ByteArray := prog_12_method_65_code
def yX10_gather : MethodName := ⟨RX10, "gather", "(I)V"⟩
abbrev cX10_mean : ByteArray := prog_12_method_66_code
def yX10_mean : MethodName := ⟨RX10, "mean", "()J"⟩
abbrev cX10_fold : ByteArray := prog_12_method_67_code
def yX10_fold : MethodName := ⟨RX10, "fold", "(II)J"⟩
abbrev cX10_groupOf : ByteArray := prog_12_method_68_code
def yX10_groupOf : MethodName := ⟨RX10, "groupOf", "(J)I"⟩
abbrev cX10_group : ByteArray := prog_12_method_69_code
def yX10_group : MethodName := ⟨RX10, "group", "(II)I"⟩
abbrev cX10_join : ByteArray := prog_12_method_70_code
def yX10_join : MethodName := ⟨RX10, "join", "(IJ)V"⟩
abbrev cX10_grouped : ByteArray := prog_12_method_71_code
def yX10_grouped : MethodName := ⟨RX10, "grouped", "(II)J"⟩
def RJ9 : String := "java/lang/Math"
def TJ9 : u_T := fun k => match k with
  | _ => ("", "", "", false)
def tyJ9 : Nat → FieldType := fun k => match k with
  | _ => .int
abbrev wsJ90 : List Cond := u_ws RJ9 TJ9 0
theorem nmJ9 : ∀ a, a < 0 → ∀ b, b < 0 → a ≠ b → (TJ9 a).2.1 ≠ (TJ9 b).2.1 := by decide +kernel
theorem tyJ9_ok : ∀ k, k < 0 → parseFieldDescriptor (TJ9 k).2.2.1 = some (tyJ9 k) := by decide +kernel
abbrev cJ9_floorDiv_f86c9 : ByteArray := prog_16_method_49_code
def yJ9_floorDiv_f86c9 : MethodName := ⟨RJ9, "floorDiv", "(JJ)J"⟩
abbrev cJ9_floorMod_f86c9 : ByteArray := prog_16_method_52_code
def yJ9_floorMod_f86c9 : MethodName := ⟨RJ9, "floorMod", "(JJ)J"⟩
abbrev cJ9_max_7cf53 : ByteArray := prog_16_method_65_code
def yJ9_max_7cf53 : MethodName := ⟨RJ9, "max", "(II)I"⟩
abbrev cJ9_max_f86c9 : ByteArray := prog_16_method_66_code
def yJ9_max_f86c9 : MethodName := ⟨RJ9, "max", "(JJ)J"⟩
abbrev cJ9_min_f86c9 : ByteArray := prog_16_method_70_code
def yJ9_min_f86c9 : MethodName := ⟨RJ9, "min", "(JJ)J"⟩
def RL : String := "FlightReaderLaw"
abbrev cL_open : ByteArray := method_3_code
def yL_open : MethodName := ⟨RL, "open", "(LFlightReader;[J)I"⟩
abbrev cL_event : ByteArray := method_4_code
def yL_event : MethodName := ⟨RL, "event", "(LFlightReader;II[J)I"⟩
abbrev cL_kind : ByteArray := method_5_code
def yL_kind : MethodName := ⟨RL, "kind", "(LFlightReader;II[J)I"⟩
abbrev cL_value : ByteArray := method_6_code
def yL_value : MethodName := ⟨RL, "value", "(LFlightReader;II[J)I"⟩
abbrev cL_letter : ByteArray := method_7_code
def yL_letter : MethodName := ⟨RL, "letter", "(LFlightReader;III[J)I"⟩
abbrev cL_select : ByteArray := method_8_code
def yL_select : MethodName := ⟨RL, "select", "(LFlightReader;Z[J)I"⟩
abbrev cL_selected : ByteArray := method_9_code
def yL_selected : MethodName := ⟨RL, "selected", "(LFlightReader;I[J)I"⟩
abbrev cL_fold : ByteArray := method_10_code
def yL_fold : MethodName := ⟨RL, "fold", "(LFlightReader;II[J)I"⟩
abbrev cL_grouped : ByteArray := method_11_code
def yL_grouped : MethodName := ⟨RL, "grouped", "(LFlightReader;II[J)I"⟩
abbrev cL_law : ByteArray := code
def yL_law : MethodName := ⟨RL, "law", "([I)Z"⟩
abbrev vwCl : List vw_C := [(RX0, TX0, 9), (RX1, TX1, 10), (RX2, TX2, 12), (RX3, TX3, 7), (RX4, TX4, 7), (RX5, TX5, 8), (RX6, TX6, 2), (RX7, TX7, 7), (RX8, TX8, 7), (RX9, TX9, 10), (RX10, TX10, 58)]
end
section
/-! THE SMALL MACHINE (am_): the program's own instructions over a small heap, without the machine's tables. Its cells are numbered in the order in which they are made; a throw is an outcome with the class's name.
Parts 05 and on prove: what the small machine does, the machine does. Everything about the program itself is said of the small machine. -/
abbrev am_C : Type := (Nat × vp_A) ⊕ (Nat × List Value)
/-- how many cells there are, what each holds, cells and slots made so far -/
abbrev am_S : Type := Nat × (Nat → am_C) × Nat × Nat
abbrev am_L : Type := List (Option Value)
/-- an instruction, its length, two numbers (class and field; callee and arguments; target), the place of its word, a constant -/
abbrev am_I : Type := Instr × Nat × Nat × Nat × Nat × Int
abbrev am_O : Type := Option Value ⊕ String
abbrev am_R : Type := am_O × am_S
abbrev am_F : Type := Nat × am_L × List Value × am_S
/-- a method: its name, bytes, locals, what it returns, handlers (from, to, where, the constant's number, the class, the number given back) -/
abbrev am_M : Type := MethodName × ByteArray × Nat × Option FieldType × List (Nat × Nat × Nat × Nat × String × Int32)
def am_kind (v : Value) : Nat := match v with
  | .int _ => 0
  | .long _ => 1
  | .ref _ => 2
  | _ => 3
/-- a long that ends in place j is gone -/
def am_kill (L : am_L) (j : Nat) : am_L := match j with
  | 0 => L
  | i + 1 => match L[i]? with
    | some (some w) => if w.category = 2 then L.set i none else L
    | _ => L
def am_set (L : am_L) (j : Nat) (v : Value) : am_L := if v.category = 2 then ((am_kill L j).set j (some v)).set (j + 1) none else (am_kill L j).set j (some v)
def am_load (q k j : Nat) (L : am_L) (st : List Value) (S : am_S) : Option am_F := match L[j]? with
  | some (some v) => if am_kind v = k then some (q, L, v :: st, S) else none
  | _ => none
def am_store (q k j : Nat) (L : am_L) (st : List Value) (S : am_S) : Option am_F := match st with
  | v :: r => if am_kind v = k ∧ j + k % 2 < L.length then some (q, am_set L j v, r, S) else none
  | [] => none
def am_ib (op : Instr) (x y : Int32) : Option Int32 := match op with
  | .iadd => some (x + y)
  | .isub => some (x - y)
  | .imul => some (x * y)
  | .idiv => if y = 0 then none else some (x / y)
  | .irem => if y = 0 then none else some (x - x / y * y)
  | .iand => some (x &&& y)
  | .ior => some (x ||| y)
  | .ixor => some (x ^^^ y)
  | .ishl => some (x <<< (y &&& 31))
  | .ishr => some (x >>> (y &&& 31))
  | .iushr => some (x.toUInt32 >>> (y.toUInt32 &&& Int32.toUInt32 31)).toInt32
  | _ => none
def am_lb (op : Instr) (x y : Int64) : Option Value := match op with
  | .ladd => some (.long (x + y))
  | .lsub => some (.long (x - y))
  | .lmul => some (.long (x * y))
  | .ldiv => if y = 0 then none else some (.long (x / y))
  | .lrem => if y = 0 then none else some (.long (x - x / y * y))
  | .land => some (.long (x &&& y))
  | .lor => some (.long (x ||| y))
  | .lxor => some (.long (x ^^^ y))
  | .lcmp => some (.int (lg_cmp x y))
  | _ => none
def am_un (op : Instr) (v : Value) : Option Value := match op, v with
  | .ineg, .int x => some (.int (-x))
  | .lneg, .long x => some (.long (-x))
  | .i2l, .int x => some (.long x.toInt64)
  | .l2i, .long x => some (.int x.toInt32)
  | .i2c, .int x => some (.int (x.toUInt32 % 65536).toInt32)
  | .i2b, .int x => some (.int x.toInt8.toInt32)
  | .i2s, .int x => some (.int x.toInt16.toInt32)
  | _, _ => none
def am_c1 (o : ClassFile.Cond) (x : Int32) : Bool := match o with
  | .eq => decide (x = 0)
  | .ne => decide (¬ x = 0)
  | .lt => decide (x < 0)
  | .ge => decide (0 ≤ x)
  | .gt => decide (0 < x)
  | .le => decide (x ≤ 0)
def am_c2 (o : ClassFile.Cond) (x y : Int32) : Bool := match o with
  | .eq => decide (x = y)
  | .ne => decide (¬ x = y)
  | .lt => decide (x < y)
  | .ge => decide (y ≤ x)
  | .gt => decide (y < x)
  | .le => decide (x ≤ y)
def am_get (S : am_S) (a : Nat) : Option am_C := if a < S.1 then some (S.2.1 a) else none
def am_upd (S : am_S) (a : Nat) (x : am_C) : am_S := (S.1, fun k => if k = a then x else S.2.1 k, S.2.2.1, S.2.2.2)
def am_push (S : am_S) (x : am_C) (n : Nat) : am_S := (S.1 + 1, fun k => if k = S.1 then x else S.2.1 k, S.2.2.1 + 1, S.2.2.2 + n)
def am_thrown (S : am_S) : am_S := (S.1, S.2.1, S.2.2.1 + 1, S.2.2.2 + 6)
def am_in (j : Int32) (n : Nat) : Bool := decide (¬ (j < 0 ∨ n ≤ j.toNatClampNeg))
def am_sig (j : Nat) : Int32 := match j with
  | 0 => 70
  | 1 => 76
  | 2 => 82
  | 3 => 0
  | _ => 2
/-- the two arrays that are read alone: the script, SIGNATURE -/
def am_ro (X : Nat × (Nat → Int32)) (a : Nat) : Option (Nat × (Nat → Int32)) := if a = 1000000 then some X else if a = 1000001 then some (5, am_sig) else none
def am_ty (t : Nat) : FieldType := match t with
  | 0 => .int
  | 1 => .long
  | 2 => .byte
  | 3 => .char
  | 4 => .object RX1
  | _ => .object RX7
def am_zero (t : Nat) (n : Nat) : vp_A := match t with
  | 0 => (n, .inl (fun _ => 0))
  | 1 => (n, .inr (.inl (fun _ => 0)))
  | 2 => (n, .inl (fun _ => 0))
  | 3 => (n, .inl (fun _ => 0))
  | _ => (n, .inr (.inr (.inr (.inr (fun _ => none)))))
/-- the types of a class's fields -/
def am_fty (ci k : Nat) : FieldType := match ci with
  | 0 => tyX0 k
  | 1 => tyX1 k
  | 2 => tyX2 k
  | 3 => tyX3 k
  | 4 => tyX4 k
  | 5 => tyX5 k
  | 6 => tyX6 k
  | 7 => tyX7 k
  | 8 => tyX8 k
  | 9 => tyX9 k
  | _ => tyX10 k
def am_cn (ci : Nat) : Nat := match ci with
  | 0 => 9
  | 1 => 10
  | 2 => 12
  | 3 => 7
  | 4 => 7
  | 5 => 8
  | 6 => 2
  | 7 => 7
  | 8 => 7
  | 9 => 10
  | _ => 58
def am_blank (ci : Nat) : List Value := (List.range (am_cn ci)).map (fun k => defaultValue (am_fty ci k))
def am_aload (t : Nat) (q : Nat) (L : am_L) (st : List Value) (S : am_S) (X : Nat × (Nat → Int32)) : Option am_F := match st with
  | .int j :: .ref o :: r => match am_ro X o with
    | some (n, f) => if t = 0 ∧ am_in j n = true then some (q, L, .int (f j.toNatClampNeg) :: r, S) else none
    | none => match am_get S o with
      | some (.inl (u, n, .inl f)) => if u = t ∧ t ≠ 1 ∧ t < 4 ∧ am_in j n = true then some (q, L, .int (f j.toNatClampNeg) :: r, S) else none
      | some (.inl (u, n, .inr (.inl f))) => if u = 1 ∧ t = 1 ∧ am_in j n = true then some (q, L, .long (f j.toNatClampNeg) :: r, S) else none
      | some (.inl (u, n, .inr (.inr (.inr (.inr f))))) => if (u = 4 ∨ u = 5) ∧ t = 4 ∧ am_in j n = true then some (q, L, va_rf (f j.toNatClampNeg) :: r, S) else none
      | _ => none
  | _ => none
def am_astore (t : Nat) (q : Nat) (L : am_L) (st : List Value) (S : am_S) : Option am_F := match st with
  | .int x :: .int j :: .ref o :: r => match am_get S o with
    | some (.inl (u, n, .inl f)) => if u = t ∧ t ≠ 1 ∧ t < 4 ∧ am_in j n = true then some (q, L, r, am_upd S o (.inl (u, n, .inl (upd f j.toNatClampNeg (vp_nar (am_ty t) x))))) else none
    | _ => none
  | .long x :: .int j :: .ref o :: r => match am_get S o with
    | some (.inl (u, n, .inr (.inl f))) => if u = 1 ∧ t = 1 ∧ am_in j n = true then some (q, L, r, am_upd S o (.inl (u, n, .inr (.inl (vp_updL f j.toNatClampNeg x))))) else none
    | _ => none
  | .ref v :: .int j :: .ref o :: r => match am_get S o, am_get S v with
    | some (.inl (u, n, .inr (.inr (.inr (.inr f))))), some (.inr (ci, _)) => if (u = 4 ∧ ci = 1 ∨ u = 5 ∧ ci = 7) ∧ t = 4 ∧ am_in j n = true then some (q, L, r, am_upd S o (.inl (u, n, .inr (.inr (.inr (.inr (va_up f j.toNatClampNeg (some v)))))))) else none
    | _, _ => none
  | _ => none
def am_alen (q : Nat) (L : am_L) (st : List Value) (S : am_S) (X : Nat × (Nat → Int32)) : Option am_F := match st with
  | .ref o :: r => match am_ro X o with
    | some (n, _) => some (q, L, .int (Int32.ofNat n) :: r, S)
    | none => match am_get S o with
      | some (.inl (u, n, _)) => if u < 6 then some (q, L, .int (Int32.ofNat n) :: r, S) else none
      | _ => none
  | _ => none
def am_getf (ci k : Nat) (q : Nat) (L : am_L) (st : List Value) (S : am_S) : Option am_F := match st with
  | .ref o :: r => match am_get S o with
    | some (.inr (c, fs)) => if c = ci then (match fs[k]? with
      | some v => some (q, L, v :: r, S)
      | none => none) else none
    | _ => none
  | _ => none
def am_putf (ci k : Nat) (q : Nat) (L : am_L) (st : List Value) (S : am_S) : Option am_F := match st with
  | v :: .ref o :: r => match am_get S o with
    | some (.inr (c, fs)) => if c = ci ∧ k < fs.length ∧ narrow (am_fty ci k) v = v ∧ fits (am_fty ci k) v = true then some (q, L, r, am_upd S o (.inr (c, fs.set k v))) else none
    | _ => none
  | _ => none
def am_newa (t : Nat) (q : Nat) (L : am_L) (st : List Value) (S : am_S) : Option am_F := match st with
  | .int n :: r => if ¬ n < 0 ∧ n.toNatClampNeg * 8 ≤ 536870912 ∧ S.2.2.1 = S.1 ∧ S.1 < 1000000 ∧ t < 6 then some (q, L, .ref S.1 :: r, am_push S (.inl (t, am_zero t n.toNatClampNeg)) n.toNatClampNeg) else none
  | _ => none
def am_sw (op : Instr) (pc : Nat) (x : Int32) : Nat := match op with
  | .tableswitch dflt lo hi offs => if x.toInt < lo ∨ hi < x.toInt then ((pc : Int) + dflt).toNat else ((pc : Int) + (offs[(x.toInt - lo).toNat]?).getD 0).toNat
  | .lookupswitch dflt ps => ((pc : Int) + Op.lookupswitch.offset ps.toList dflt x.toInt).toNat
  | _ => 0
def am_step (X : Nat × (Nat → Int32)) (i : am_I) (pc : Nat) (L : am_L) (st : List Value) (S : am_S) : Option am_F := match i with
  | (op, len, a, b, _, cst) => match op with
    | .iconst n => some (pc + len, L, .int (Int32.ofInt n) :: st, S)
    | .bipush n => some (pc + len, L, .int (Int8.ofInt n).toInt32 :: st, S)
    | .sipush n => some (pc + len, L, .int (Int16.ofInt n).toInt32 :: st, S)
    | .lconst n => some (pc + len, L, .long (Int64.ofNat (n : Nat)) :: st, S)
    | .ldc _ => some (pc + len, L, .int (Int32.ofInt cst) :: st, S)
    | .ldc2_w _ => some (pc + len, L, .long (Int64.ofInt cst) :: st, S)
    | .iload j => am_load (pc + len) 0 j L st S
    | .iload_n j => am_load (pc + len) 0 (j : Nat) L st S
    | .lload j => am_load (pc + len) 1 j L st S
    | .lload_n j => am_load (pc + len) 1 (j : Nat) L st S
    | .aload j => am_load (pc + len) 2 j L st S
    | .aload_n j => am_load (pc + len) 2 (j : Nat) L st S
    | .istore j => am_store (pc + len) 0 j L st S
    | .istore_n j => am_store (pc + len) 0 (j : Nat) L st S
    | .lstore j => am_store (pc + len) 1 j L st S
    | .lstore_n j => am_store (pc + len) 1 (j : Nat) L st S
    | .astore j => am_store (pc + len) 2 j L st S
    | .astore_n j => am_store (pc + len) 2 (j : Nat) L st S
    | .iinc j n => match L[j]? with
      | some (some (.int x)) => some (pc + len, am_set L j (.int (x + Int32.ofInt n)), st, S)
      | _ => none
    | .iadd | .isub | .imul | .idiv | .irem | .iand | .ior | .ixor | .ishl | .ishr | .iushr => match st with
      | .int y :: .int x :: r => (match am_ib op x y with
        | some v => some (pc + len, L, .int v :: r, S)
        | none => none)
      | _ => none
    | .ladd | .lsub | .lmul | .ldiv | .lrem | .land | .lor | .lxor | .lcmp => match st with
      | .long y :: .long x :: r => (match am_lb op x y with
        | some v => some (pc + len, L, v :: r, S)
        | none => none)
      | _ => none
    | .lshl => match st with
      | .int y :: .long x :: r => some (pc + len, L, .long (x <<< (y.toInt64 &&& 63)) :: r, S)
      | _ => none
    | .ineg | .lneg | .i2l | .l2i | .i2c | .i2b | .i2s => match st with
      | v :: r => (match am_un op v with
        | some w => some (pc + len, L, w :: r, S)
        | none => none)
      | _ => none
    | .dup => match st with
      | v :: r => if v.category = 1 then some (pc + len, L, v :: v :: r, S) else none
      | _ => none
    | .dup2 => match st with
      | v :: r => if v.category = 2 then some (pc + len, L, v :: v :: r, S) else (match r with
        | w :: r2 => if v.category = 1 ∧ w.category = 1 then some (pc + len, L, v :: w :: v :: w :: r2, S) else none
        | [] => none)
      | _ => none
    | .pop => match st with
      | v :: r => if v.category = 1 then some (pc + len, L, r, S) else none
      | _ => none
    | .pop2 => match st with
      | v :: r => if v.category = 2 then some (pc + len, L, r, S) else none
      | _ => none
    | .goto _ => some (a, L, st, S)
    | .ifCond o _ => match st with
      | .int x :: r => some (if am_c1 o x = true then a else pc + len, L, r, S)
      | _ => none
    | .if_icmp o _ => match st with
      | .int y :: .int x :: r => some (if am_c2 o x y = true then a else pc + len, L, r, S)
      | _ => none
    | .tableswitch _ _ _ _ | .lookupswitch _ _ => match st with
      | .int x :: r => some (am_sw op pc x, L, r, S)
      | _ => none
    | .iaload => am_aload 0 (pc + len) L st S X
    | .laload => am_aload 1 (pc + len) L st S X
    | .baload => am_aload 2 (pc + len) L st S X
    | .caload => am_aload 3 (pc + len) L st S X
    | .aaload => am_aload 4 (pc + len) L st S X
    | .iastore => am_astore 0 (pc + len) L st S
    | .lastore => am_astore 1 (pc + len) L st S
    | .bastore => am_astore 2 (pc + len) L st S
    | .castore => am_astore 3 (pc + len) L st S
    | .aastore => am_astore 4 (pc + len) L st S
    | .arraylength => am_alen (pc + len) L st S X
    | .getfield _ => am_getf a b (pc + len) L st S
    | .putfield _ => am_putf a b (pc + len) L st S
    | .getstatic _ => some (pc + len, L, .ref 1000001 :: st, S)
    | .new _ => if a < 11 ∧ S.2.2.1 = S.1 ∧ S.1 < 1000000 then some (pc + len, L, .ref S.1 :: st, am_push S (.inr (a, am_blank a)) (am_cn a)) else none
    | .newarray _ => am_newa a (pc + len) L st S
    | .anewarray _ => am_newa a (pc + len) L st S
    | .invokespecial _ => if a = 99999 then (match st with
      | .ref _ :: r => if (r.map fun v => v.category).sum ≤ 8 then some (pc + len, L, r, S) else none
      | _ => none) else none
    | _ => none
/-- a method's end: what it gives back, or the class that it throws -/
def am_end (ret : Option FieldType) (i : am_I) (st : List Value) (S : am_S) : Option am_R := match i with
  | (op, _, a, _, _, _) => match op with
    | .ireturn => match st, ret with
      | [.int v], some ty => if narrow ty (.int v) = .int v then some (.inl (some (.int v)), S) else none
      | _, _ => none
    | .lreturn => match st, ret with
      | [.long v], some .long => some (.inl (some (.long v)), S)
      | _, _ => none
    | .return_ => match st, ret with
      | [], none => some (.inl none, S)
      | _, _ => none
    | .new _ => if st = [] then (match a with
      | 100 => some (.inr "java/lang/IllegalArgumentException", am_thrown S)
      | 101 => some (.inr "java/lang/IndexOutOfBoundsException", am_thrown S)
      | 102 => some (.inr "java/util/NoSuchElementException", am_thrown S)
      | _ => none) else none
    | _ => none
def am_isCall (op : Instr) : Bool := match op with
  | .invokevirtual _ => true
  | .invokespecial _ => true
  | .invokestatic _ => true
  | _ => false
/-- the arguments of a call, the first one first, and what stays on the stack -/
def am_args (i : am_I) (st : List Value) : Option (List Value × List Value) := match i with
  | (_, _, _, b, _, _) => if b ≤ st.length ∧ ((st.drop b).map fun v => v.category).sum ≤ 8 then some ((st.take b).reverse, st.drop b) else none
def am_find (hs : List (Nat × Nat × Nat × Nat × String × Int32)) (pc : Nat) (E : String) : Option Int32 := match hs with
  | [] => none
  | h :: r => if h.1 ≤ pc ∧ pc < h.2.1 ∧ h.2.2.2.2.1 = E then some h.2.2.2.2.2 else am_find r pc E
/-- the receiver of a call is an object of the class that has the method -/
def am_recv (M : Nat → am_M) (i : am_I) (as : List Value) (S : am_S) : Bool := match i.1, as with
  | .invokevirtual _, .ref o :: _ => (match am_get S o with
    | some (.inr (ci, _)) => decide ((vwCl[ci]?).map (fun q => q.1) = some (M i.2.2.1).1.cls)
    | _ => false)
  | .invokespecial _, .ref _ :: _ => true
  | .invokestatic _, _ => true
  | _, _ => false
def am_flat (as : List Value) : am_L := as.flatMap (fun v => if v.category = 2 then [some v, none] else [some v])
def am_entry (n : Nat) (as : List Value) : am_L := am_flat as ++ List.replicate (n - (am_flat as).length) none
def am_go (P : Nat → Nat → Option am_I) (M : Nat → am_M) (X : Nat × (Nat → Int32)) (ev : Nat → List Value → am_S → am_R → Prop) (k : Nat) : Nat → Nat → am_L → List Value → am_S → am_R → Prop
  | 0, _, _, _, _, _ => False
  | n + 1, pc, L, st, S, r => ∃ i, P k pc = some i ∧
    ((∃ q : am_F, am_step X i pc L st S = some q ∧ am_go P M X ev k n q.1 q.2.1 q.2.2.1 q.2.2.2 r) ∨
     am_end (M k).2.2.2.1 i st S = some r ∨
     (am_isCall i.1 = true ∧ i.2.2.1 ≠ 99999 ∧ ∃ (as rest : List Value) (r1 : am_R), am_args i st = some (as, rest) ∧ am_recv M i as S = true ∧ ev i.2.2.1 as S r1 ∧
       match r1.1 with
       | .inl v => am_go P M X ev k n (pc + 3) L (v.toList ++ rest) r1.2 r
       | .inr E => ((M k).2.2.2.2 = [] ∧ r = (.inr E, r1.2)) ∨ (∃ x, am_find (M k).2.2.2.2 pc E = some x ∧ r = (.inl (some (.int x)), r1.2))))
def am_ev (P : Nat → Nat → Option am_I) (M : Nat → am_M) (X : Nat × (Nat → Int32)) : Nat → Nat → List Value → am_S → am_R → Prop
  | 0, _, _, _, _ => False
  | d + 1, k, as, S, r => (am_flat as).length ≤ (M k).2.2.1 ∧ ∃ n, am_go P M X (am_ev P M X d) k n 0 (am_entry (M k).2.2.1 as) [] S r
end
section
/-! the small machine's program is the machine's: what is looked up of each instruction; and how a small heap, its values and locals lie in the machine's -/
def am_gw : List Cond := lw_tbl.filter goodWord
def am_nwK (w : Cond) : Bool := match w with
  | .methodLinkNest .. => true
  | .declares _ => true
  | .castable .. => true
  | _ => false
def am_nw : List Cond := lw_tbl.filter am_nwK
def am_word (w : Nat) (x : Cond) : Bool := decide (lw_tbl[w]? = some x)
theorem am_word_in {w : Nat} {x : Cond} (h : am_word w x = true) : x ∈ lw_tbl := List.mem_of_getElem? (of_decide_eq_true h)
theorem am_word_gw {w : Nat} {x : Cond} (h : am_word w x = true) (hg : goodWord x = true) : x ∈ am_gw := List.mem_filter.mpr ⟨am_word_in h, hg⟩
def am_len (op : Instr) : Nat := match op with
  | .bipush _ | .ldc _ | .iload _ | .lload _ | .aload _ | .istore _ | .lstore _ | .astore _ | .newarray _ => 2
  | .sipush _ | .ldc2_w _ | .iinc _ _ | .goto _ | .ifCond _ _ | .if_icmp _ _ | .getfield _ | .putfield _ | .getstatic _ | .new _ | .anewarray _ | .invokevirtual _ | .invokespecial _ | .invokestatic _ => 3
  | _ => 1
def am_exc (a : Nat) : String := match a with
  | 100 => "java/lang/IllegalArgumentException"
  | 101 => "java/lang/IndexOutOfBoundsException"
  | _ => "java/util/NoSuchElementException"
def am_names : List String := ["java/lang/RuntimeException", "java/lang/Exception"]
/-- the places from which the program throws: the class that holds the constant, its number, the class thrown -/
def am_thr : List (String × Nat × String) := [(RX5, 39, am_exc 100), (RX9, 125, am_exc 100), (RX9, 155, am_exc 101), (RX9, 135, am_exc 102)]
def am_chk2 (M : Nat → am_M) (k pc : Nat) (i : am_I) : Bool := match i with
  | (op, len, a, b, w, cst) => match op with
    | .ldc x => am_word w (.constant (M k).1.cls x (Int32.ofInt cst))
    | .ldc2_w x => am_word w (.constantLong (M k).1.cls x (Int64.ofInt cst))
    | .goto off => decide ((pc : Int) + off = (a : Int))
    | .ifCond _ off => decide ((pc : Int) + off = (a : Int))
    | .if_icmp _ off => decide ((pc : Int) + off = (a : Int))
    | .tableswitch dflt lo hi offs => decide (0 ≤ (pc : Int) + dflt) && offs.toList.all (fun o => decide (0 ≤ (pc : Int) + o)) && decide (hi - lo < offs.size)
    | .lookupswitch dflt ps => (ps.toList.zip (ps.toList.drop 1)).all (fun (a, next) => a.1 < next.1) && decide (0 ≤ (pc : Int) + dflt) && ps.toList.all (fun o => decide (0 ≤ (pc : Int) + o.2))
    | .getfield x => (match vwCl[a]? with
      | some q => am_word w (.fieldLink (M k).1.cls x (q.2.1 b).1 (q.2.1 b).2.1 (q.2.1 b).2.2.1) && decide (b < q.2.2)
      | none => false)
    | .putfield x => (match vwCl[a]? with
      | some q => am_word w (.fieldLink (M k).1.cls x (q.2.1 b).1 (q.2.1 b).2.1 (q.2.1 b).2.2.1) && decide (b < q.2.2) && (!(q.2.1 b).2.2.2 || (decide ((M k).1.name = "<init>") && decide ((q.2.1 b).1 = (M k).1.cls)))
      | none => false)
    | .getstatic x => am_word w (.fieldLink (M k).1.cls x RX1 "SIGNATURE" "[I")
    | .new x => if a < 11 then (match vwCl[a]? with
      | some q => am_word w (.classLink (M k).1.cls x q.1)
      | none => false) else (decide (a = 100 ∨ a = 101 ∨ a = 102) && am_word w (.classLink (M k).1.cls x (am_exc a)) && decide (((M k).1.cls, b, am_exc a) ∈ am_thr) && decide (decode (M k).2.1 (pc + 3) = .ok (.dup, 1)) && decide (decode (M k).2.1 (pc + 4) = .ok (.invokespecial b, 3)) && decide (decode (M k).2.1 (pc + 7) = .ok (.athrow, 1)) && (M k).2.2.2.2.isEmpty)
    | .newarray t => decide (a < 4) && decide (newarray.typeOf t = am_ty a)
    | .anewarray x => (decide (a = 4) && am_word w (.classLink (M k).1.cls x RX1)) || (decide (a = 5) && am_word w (.classLink (M k).1.cls x RX7))
    | .invokespecial x => if a = 99999 then am_word w (.methodLink (M k).1.cls x objectInit) else
        (decide ((M a).1.name = "<init>") && decide ((parseMethodDescriptor (M a).1.desc).map (fun d => d.parameters.length + 1) = some b) && (am_word w (.methodLink (M k).1.cls x (M a).1) || am_word w (.methodLinkNest (M k).1.cls x (M a).1 "FlightReader")))
    | .invokevirtual x => decide ((parseMethodDescriptor (M a).1.desc).map (fun d => d.parameters.length + 1) = some b) && decide (a ≠ 99999) && (am_word w (.methodLink (M k).1.cls x (M a).1) || am_word w (.methodLinkNest (M k).1.cls x (M a).1 "FlightReader"))
    | .invokestatic x => decide ((parseMethodDescriptor (M a).1.desc).map (fun d => d.parameters.length) = some b) && decide (a ≠ 99999) && am_word w (.methodLink (M k).1.cls x (M a).1)
    | _ => true
def am_sws (op : Instr) : Bool := match op with
  | .tableswitch .. => true
  | .lookupswitch .. => true
  | _ => false
def am_chk (M : Nat → am_M) (k pc : Nat) (i : am_I) : Bool := decide (decode (M k).2.1 pc = .ok (i.1, i.2.1)) && (am_sws i.1 || decide (i.2.1 = am_len i.1)) && am_chk2 M k pc i
theorem am_chk_sp {M : Nat → am_M} {k pc : Nat} {i : am_I} (h : am_chk M k pc i = true) : decode (M k).2.1 pc = .ok (i.1, i.2.1) ∧ (am_sws i.1 = true ∨ i.2.1 = am_len i.1) ∧ am_chk2 M k pc i = true := by
  simp only [am_chk, Bool.and_eq_true, Bool.or_eq_true, decide_eq_true_eq] at h
  exact ⟨h.1.1, h.1.2, h.2⟩
def am_hh (M : Nat → am_M) (k : Nat) : List (Nat × Nat × Nat × Nat) := (M k).2.2.2.2.map (fun h => (h.1, h.2.1, h.2.2.1, h.2.2.2.1))
def am_cw (M : Nat → am_M) (k : Nat) : Cond := if (M k).2.2.2.2 = [] then .code (M k).1 (M k).2.1 (M k).2.2.1 (M k).2.2.2.1 else .codeWith (M k).1 (M k).2.1 (M k).2.2.1 (M k).2.2.2.1 (am_hh M k)
/-- what the tables say of a method: kind 0 called on an object, 1 static, 2 a constructor; a handler gives back its number at once -/
def am_mok (M : Nat → am_M) (kd : Nat → Nat) (k : Nat) : Prop :=
  am_cw M k ∈ am_gw ∧ Cond.initialized (M k).1.cls ∈ am_gw ∧ (M k).2.2.1 ≤ 40 ∧ plainFor (M k).1 = true ∧ ((M k).1.cls ≠ "java/lang/invoke/MethodHandle" ∧ (M k).1.cls ≠ "java/lang/invoke/VarHandle") ∧
  (kd k = 0 → Cond.instanceMethod (M k).1 ∈ am_gw ∧ Cond.selects (M k).1.cls (M k).1 (M k).1 ∈ am_gw ∧ (M k).2.2.2.2 = []) ∧ (kd k = 1 → Cond.static (M k).1 ∈ am_gw) ∧ (kd k = 2 → Cond.instanceMethod (M k).1 ∈ am_gw ∧ (M k).1.name = "<init>" ∧ (M k).2.2.2.1 = none ∧ (M k).2.2.2.2 = [])
end
section
/-! how a small heap, its values and locals lie in the machine's -/
/-- what does not change in a run: class numbers and slots, array classes, where the new cells begin, the script's cell, SIGNATURE's, the script -/
abbrev am_G : Type := va_G × (Nat → ClassId) × Nat × Nat × Nat × Nat × (Nat → Int32)
abbrev am_b0 (G : am_G) : Nat := G.2.2.1
abbrev am_X (G : am_G) : Nat × (Nat → Int32) := G.2.2.2.2.2
def am_A (G : am_G) : Nat → Prop := fun q => am_b0 G ≤ q
def am_ad (G : am_G) (i : Nat) : Nat := if i = 1000000 then G.2.2.2.1 else if i = 1000001 then G.2.2.2.2.1 else am_b0 G + i
def am_v (G : am_G) (v : Value) : Value := match v with
  | .ref i => .ref (am_ad G i)
  | x => x
def am_ra (G : am_G) (x : vp_A) : vp_A := match x with
  | (n, .inr (.inr (.inr (.inr f)))) => (n, .inr (.inr (.inr (.inr (fun j => (f j).map (am_ad G))))))
  | y => y
def am_e (G : am_G) (x : am_C) : va_E := match x with
  | .inl (t, a) => .inl (G.2.1 t, am_ra G a)
  | .inr (ci, fs) => .inr (ci, fs.map (am_v G))
def am_ws (G : am_G) (S : am_S) : va_W := (List.range S.1).map (fun k => (am_b0 G + k, am_e G (S.2.1 k)))
def am_tys (G : am_G) : List (ClassId × FieldType) := (List.range 6).map (fun t => (G.2.1 t, am_ty t))
theorem am_v_cat (G : am_G) (v : Value) : (am_v G v).category = v.category := by cases v <;> rfl
theorem am_v_cats (G : am_G) (l : List Value) : ((l.map (am_v G)).map fun v => v.category).sum = (l.map fun v => v.category).sum := by
  induction l with
  | nil => rfl
  | cons a t ih => simp only [List.map_cons, List.sum_cons, am_v_cat, ih]
theorem am_ws_at {G : am_G} {S : am_S} {a : Nat} (h : a < S.1) : (am_ws G S)[a]? = some (am_b0 G + a, am_e G (S.2.1 a)) := by
  simp [am_ws, h]
theorem am_ws_len (G : am_G) (S : am_S) : (am_ws G S).length = S.1 := by simp [am_ws]
theorem am_ws_inv {G : am_G} {S : am_S} {k : Nat} {q : Nat × va_E} (h : (am_ws G S)[k]? = some q) : k < S.1 ∧ q = (am_b0 G + k, am_e G (S.2.1 k)) := by
  have hk : k < (am_ws G S).length := (List.getElem?_eq_some_iff.mp h).1
  rw [am_ws_len] at hk
  rw [am_ws_at hk] at h
  exact ⟨hk, (Option.some.inj h).symm⟩
theorem am_ws_upd {G : am_G} {S : am_S} {a : Nat} (x : am_C) (h : a < S.1) : (am_ws G S).set a (am_b0 G + a, am_e G x) = am_ws G (am_upd S a x) := by
  apply List.ext_getElem?
  intro j
  rw [List.getElem?_set]
  by_cases hj : j < S.1
  · rw [am_ws_at (S := am_upd S a x) hj]
    by_cases e : a = j
    · subst e
      simp [am_ws_len, h, am_upd]
    · have e2 : ¬ j = a := fun q => e q.symm
      simp [e, am_ws_at hj, am_upd, e2]
  · have h1 : (am_ws G S)[j]? = none := List.getElem?_eq_none (by rw [am_ws_len]; omega)
    have h2 : (am_ws G (am_upd S a x))[j]? = none := List.getElem?_eq_none (by rw [am_ws_len]; show S.1 ≤ j; omega)
    have e : ¬ a = j := by omega
    rw [h2]
    simp [e, h1]
theorem am_ws_push {G : am_G} {S : am_S} (x : am_C) (n : Nat) : am_ws G S ++ [(am_b0 G + S.1, am_e G x)] = am_ws G (am_push S x n) := by
  apply List.ext_getElem?
  intro j
  by_cases hj : j < S.1
  · rw [List.getElem?_append_left (by rw [am_ws_len]; exact hj), am_ws_at hj, am_ws_at (S := am_push S x n) (show j < S.1 + 1 by omega)]
    have e : ¬ j = S.1 := by omega
    simp [am_push, e]
  · rw [List.getElem?_append_right (by rw [am_ws_len]; omega), am_ws_len]
    by_cases e : j = S.1
    · subst e
      rw [am_ws_at (S := am_push S x n) (show S.1 < S.1 + 1 by omega)]
      simp [am_push]
    · rw [List.getElem?_eq_none (by simp; omega), List.getElem?_eq_none (by rw [am_ws_len]; show S.1 + 1 ≤ j; omega)]
theorem am_ws_D (G : am_G) (S : am_S) : va_D (am_A G) (am_ws G S) := by
  refine ⟨fun i j p q hi hj e => ?_, fun k q hk => ?_⟩
  · obtain ⟨-, rfl⟩ := am_ws_inv hi
    obtain ⟨-, rfl⟩ := am_ws_inv hj
    have e' : am_b0 G + i = am_b0 G + j := e
    omega
  · obtain ⟨-, rfl⟩ := am_ws_inv hk
    show am_b0 G ≤ am_b0 G + k
    omega
theorem am_ad_low {G : am_G} {a : Nat} (h : a < 1000000) : am_ad G a = am_b0 G + a := by
  unfold am_ad
  rw [if_neg (by omega), if_neg (by omega)]
/-- the small heap lies in H -/
def am_world (G : am_G) (S : am_S) (H : Heap) : Prop := va_P G.1 vwCl (am_ws G S) H ∧ S.1 ≤ 1000000
def am_env (G : am_G) (s : State) : Prop :=
  va_K G.1 vwCl (am_tys G) s ∧ vx_Zq Bundle.tN "UNASSIGNED_STACK" Bundle.steD (am_A G) s s.heap ∧ vx_Zq Bundle.tN "SUPPRESSED_SENTINEL" Bundle.listD (am_A G) s s.heap ∧
  (va_X G.2.2.2.1 (am_X G).1 (am_X G).2 s s.heap ∧ G.2.2.2.1 < am_b0 G) ∧
  (va_Z RX1 "SIGNATURE" "[I" (.ref G.2.2.2.2.1) (am_A G) s s.heap ∧ va_T .int G.2.2.2.2.1 5 (fun j => .int (am_sig j)) (am_A G) s s.heap ∧ G.2.2.2.2.1 < am_b0 G) ∧
  (∀ w ∈ am_nw, va_Nw w s) ∧ (va_AO RX1 s ∧ va_AO RX7 s) ∧ am_b0 G ≤ s.heap.size ∧
  (∀ a b : Nat, a < 3 → b < 3 → a ≠ b → va_Nc (am_exc (100 + a)) (am_exc (100 + b)) s)
/-- the locals: what the small list tells is held -/
def am_ls (G : am_G) (ls : Array Slot) (n : Nat) (L : am_L) : Prop := ls.size = n ∧ lv_wf ls ∧ L.length = n ∧ ∀ (i : Nat) (v : Value), L[i]? = some (some v) → ls[i]? = some (.val (am_v G v))
def am_pairs (G : am_G) (L : am_L) : List (Nat × Value) := (List.range L.length).filterMap (fun i => match L[i]? with
  | some (some v) => some (i, am_v G v)
  | _ => none)
theorem am_pairs_mem {G : am_G} {L : am_L} {q : Nat × Value} : q ∈ am_pairs G L ↔ ∃ v, L[q.1]? = some (some v) ∧ q.2 = am_v G v := by
  unfold am_pairs
  rw [List.mem_filterMap]
  constructor
  · rintro ⟨i, -, hi⟩
    split at hi
    · rename_i v hv
      cases hi
      exact ⟨v, hv, rfl⟩
    · cases hi
  · rintro ⟨v, hv, e⟩
    refine ⟨q.1, List.mem_range.mpr ((List.getElem?_eq_some_iff.mp hv).1), ?_⟩
    rw [hv]
    simp only [← e]
theorem am_ls_has {G : am_G} {ls : Array Slot} {n : Nat} {L : am_L} (h : am_ls G ls n L) : lv_has ls n (am_pairs G L) := by
  refine ⟨h.1, h.2.1, fun q hq => ?_⟩
  obtain ⟨v, hv, e⟩ := am_pairs_mem.mp hq
  rw [e]
  exact h.2.2.2 _ _ hv
theorem am_kill_len (L : am_L) (j : Nat) : (am_kill L j).length = L.length := by
  unfold am_kill
  split
  · rfl
  · split
    · split <;> simp
    · rfl
theorem am_set_len (L : am_L) (j : Nat) (v : Value) : (am_set L j v).length = L.length := by
  unfold am_set
  split <;> simp [am_kill_len]
theorem am_kill_other {L : am_L} {j i : Nat} {w : Value} (h : (am_kill L j)[i]? = some (some w)) : L[i]? = some (some w) ∧ ¬ (i + 1 = j ∧ w.category = 2) := by
  cases j with
  | zero => exact ⟨h, fun e => by omega⟩
  | succ m =>
    unfold am_kill at h
    dsimp only at h
    split at h
    · rename_i u hu
      split at h
      · rename_i hcu
        rw [List.getElem?_set] at h
        split at h
        · split at h <;> cases h
        · rename_i hne
          exact ⟨h, fun e => hne (by omega)⟩
      · rename_i hcu
        refine ⟨h, fun e => ?_⟩
        have e1 : i = m := by omega
        subst e1
        rw [hu] at h
        cases h
        exact hcu e.2
    · rename_i hno
      refine ⟨h, fun e => ?_⟩
      have e1 : i = m := by omega
      subst e1
      exact hno _ h
theorem am_set_self {L : am_L} {j : Nat} {v w : Value} (h : (am_set L j v)[j]? = some (some w)) : w = v := by
  unfold am_set at h
  split at h
  · rw [List.getElem?_set, if_neg (by omega), List.getElem?_set, if_pos rfl] at h
    split at h
    · exact (Option.some.inj (Option.some.inj h)).symm
    · exact absurd h (by simp)
  · rw [List.getElem?_set, if_pos rfl] at h
    split at h
    · exact (Option.some.inj (Option.some.inj h)).symm
    · exact absurd h (by simp)
/-- a place that a store leaves as it was -/
theorem am_set_other {L : am_L} {j i : Nat} {v w : Value} (h : (am_set L j v)[i]? = some (some w)) (hi : ¬ i = j) : L[i]? = some (some w) ∧ ¬ (i + 1 = j ∧ w.category = 2) ∧ ¬ (i = j + 1 ∧ v.category = 2) := by
  unfold am_set at h
  split at h
  · rw [List.getElem?_set] at h
    split at h
    · split at h
      · exact absurd h (by simp)
      · exact absurd h (by simp)
    · rename_i hne
      rw [List.getElem?_set, if_neg (fun e => hi e.symm)] at h
      obtain ⟨h1, h2⟩ := am_kill_other h
      exact ⟨h1, h2, fun e => hne e.1.symm⟩
  · rename_i hc
    rw [List.getElem?_set, if_neg (fun e => hi e.symm)] at h
    obtain ⟨h1, h2⟩ := am_kill_other h
    exact ⟨h1, h2, fun e => hc e.2⟩
theorem am_ls_set1 {G : am_G} {ls ls' : Array Slot} {n j : Nat} {L : am_L} {v : Value} (h : am_ls G ls n L) (hc : v.category = 1)
    (h' : lv_has ls' n ((j, am_v G v) :: (am_pairs G L).filter (fun q => !(q.1 == j) && !(q.1 + 1 == j && q.2.category == 2)))) : am_ls G ls' n (am_set L j v) := by
  refine ⟨h'.1, h'.2.1, by rw [am_set_len]; exact h.2.2.1, fun i w hw => ?_⟩
  by_cases hi : i = j
  · subst hi
    have hv : w = v := am_set_self hw
    rw [hv]
    exact h'.2.2 _ List.mem_cons_self
  · obtain ⟨h1, h2, -⟩ := am_set_other hw hi
    refine h'.2.2 (i, am_v G w) (List.mem_cons_of_mem _ (List.mem_filter.mpr ⟨am_pairs_mem.mpr ⟨w, h1, rfl⟩, ?_⟩))
    simp only [Bool.and_eq_true, Bool.not_eq_true', beq_eq_false_iff_ne, ne_eq, Bool.and_eq_false_iff, am_v_cat]
    refine ⟨hi, ?_⟩
    by_cases e : i + 1 = j
    · exact Or.inr fun e2 => h2 ⟨e, e2⟩
    · exact Or.inl e
theorem am_ls_set2 {G : am_G} {ls ls' : Array Slot} {n j : Nat} {L : am_L} {v : Value} (h : am_ls G ls n L) (hc : v.category = 2)
    (h' : lv_has ls' n ((j, am_v G v) :: (am_pairs G L).filter (fun q => !(q.1 == j) && (!(q.1 == j + 1) && !(q.1 + 1 == j && q.2.category == 2))))) : am_ls G ls' n (am_set L j v) := by
  refine ⟨h'.1, h'.2.1, by rw [am_set_len]; exact h.2.2.1, fun i w hw => ?_⟩
  by_cases hi : i = j
  · subst hi
    have hv : w = v := am_set_self hw
    rw [hv]
    exact h'.2.2 _ List.mem_cons_self
  · obtain ⟨h1, h2, h3⟩ := am_set_other hw hi
    refine h'.2.2 (i, am_v G w) (List.mem_cons_of_mem _ (List.mem_filter.mpr ⟨am_pairs_mem.mpr ⟨w, h1, rfl⟩, ?_⟩))
    simp only [Bool.and_eq_true, Bool.not_eq_true', beq_eq_false_iff_ne, ne_eq, Bool.and_eq_false_iff, am_v_cat]
    refine ⟨hi, fun e => h3 ⟨e, hc⟩, ?_⟩
    by_cases e : i + 1 = j
    · exact Or.inr fun e2 => h2 ⟨e, e2⟩
    · exact Or.inl e
end
section
/-! one step of the small machine is one of the machine: instructions that leave the heap alone -/
def am_ctx (M : Nat → am_M) (G : am_G) (p : Program) (s : State) (m : MethodId) (args : Array Value) (meth : Method) (c : Code) (k : Nat) : Prop :=
  p.tables.exec = Jvm.exec ∧ c.code = (M k).2.1 ∧ c.maxLocals = (M k).2.2.1 ∧ s.vm.findClass (M k).1.cls = some m.cls ∧ (∀ w ∈ am_gw, w.before args s = true) ∧ am_env G s ∧ meth.name = (M k).1.name
theorem am_load_inv {q k j : Nat} {L : am_L} {st : List Value} {S : am_S} {r : am_F} (h : am_load q k j L st S = some r) : ∃ v, L[j]? = some (some v) ∧ am_kind v = k ∧ r = (q, L, v :: st, S) := by
  unfold am_load at h
  split at h
  · rename_i v hv
    split at h
    · rename_i hk
      exact ⟨v, hv, hk, (Option.some.inj h).symm⟩
    · cases h
  · cases h
theorem am_store_inv {q k j : Nat} {L : am_L} {st : List Value} {S : am_S} {r : am_F} (h : am_store q k j L st S = some r) : ∃ v st', st = v :: st' ∧ am_kind v = k ∧ j + k % 2 < L.length ∧ r = (q, am_set L j v, st', S) := by
  unfold am_store at h
  split at h
  · rename_i v st'
    split at h
    · rename_i hk
      exact ⟨v, st', rfl, hk.1, hk.2, (Option.some.inj h).symm⟩
    · cases h
  · cases h
theorem am_k0 {v : Value} (h : am_kind v = 0) : ∃ x, v = .int x := by cases v <;> simp [am_kind] at h <;> exact ⟨_, rfl⟩
theorem am_k1 {v : Value} (h : am_kind v = 1) : ∃ x, v = .long x := by cases v <;> simp [am_kind] at h <;> exact ⟨_, rfl⟩
theorem am_k2 {v : Value} (h : am_kind v = 2) : ∃ x, v = .ref x := by cases v <;> simp [am_kind] at h <;> exact ⟨_, rfl⟩
/-- an instruction that may change the heap -/
def am_heapy (op : Instr) : Bool := match op with
  | .iaload | .laload | .baload | .caload | .aaload | .iastore | .lastore | .bastore | .castore | .aastore | .arraylength | .getfield _ | .putfield _ | .getstatic _ | .new _ | .newarray _ | .anewarray _ | .invokespecial _ => true
  | _ => false
theorem am_look_nn {pc : Nat} {dflt : Int} {l : List (Int × Int)} (h0 : 0 ≤ (pc : Int) + dflt) (h : ∀ q ∈ l, 0 ≤ (pc : Int) + q.2) (x : Int) : 0 ≤ (pc : Int) + Op.lookupswitch.offset l dflt x := by
  induction l with
  | nil => exact h0
  | cons a t ih =>
    have h1 := h a List.mem_cons_self
    have h2 := ih (fun q hq => h q (List.mem_cons_of_mem _ hq))
    obtain ⟨a1, a2⟩ := a
    unfold Op.lookupswitch.offset
    first
      | (split <;> first | exact h1 | exact h2 | exact h0)
      | (split
         · first | exact h1 | exact h2 | exact h0
         · split <;> first | exact h1 | exact h2 | exact h0)
section AMP
variable {p : Program} {l : Launch} {e : Env} {R : Room} {s : State} {m : MethodId} {args : Array Value} {below : List Frame} {meth : Method} {c : Code} {H : Heap} {locs : List Loc} {cells slots : Nat} {Q : State → Prop}
variable {M : Nat → am_M} {G : am_G} {k pc : Nat} {ls : Array Slot}
set_option maxHeartbeats 4000000 in
theorem am_step_pure (C : am_ctx M G p s m args meth c k) {i : am_I} {L : am_L} {st : List Value} {S : am_S} {q : am_F}
    (hchk : am_chk M k pc i = true) (hop : am_heapy i.1 = false) (hstep : am_step (am_X G) i pc L st S = some q) (hl : am_ls G ls (M k).2.2.1 L)
    (kk : ∀ ls', am_ls G ls' (M k).2.2.1 q.2.1 → q.2.2.2 = S → W p l e R s m args below meth c H locs cells slots Q (F0 m q.1 ls' (q.2.2.1.map (am_v G)))) :
    W p l e R s m args below meth c H locs cells slots Q (F0 m pc ls (st.map (am_v G))) := by
  obtain ⟨hx, hb, hml, hown, hgw, henv, hnm⟩ := C
  obtain ⟨op, len, a, b, w, cst⟩ := i
  obtain ⟨hd, hln, hc2⟩ := am_chk_sp hchk
  dsimp only at hd hln hc2 hop
  have hpair := am_ls_has hl
  cases op <;> first | (exact absurd (show true = false from hop) (by decide)) | skip
  case iconst n =>
    have hln : len = 1 := by simpa [am_sws, am_len] using hln
    subst hln
    cases hstep
    exact lv_iconst hx hb hd rfl (kk ls hl rfl)
  case bipush n =>
    have hln : len = 2 := by simpa [am_sws, am_len] using hln
    subst hln
    cases hstep
    exact lv_bipush hx hb hd rfl (kk ls hl rfl)
  case sipush n =>
    have hln : len = 3 := by simpa [am_sws, am_len] using hln
    subst hln
    cases hstep
    exact lv_sipush hx hb hd rfl (kk ls hl rfl)
  case lconst n =>
    have hln : len = 1 := by simpa [am_sws, am_len] using hln
    subst hln
    cases hstep
    exact lv_lconst hx hb hd rfl (kk ls hl rfl)
  case ldc x =>
    have hln : len = 2 := by simpa [am_sws, am_len] using hln
    subst hln
    cases hstep
    exact lv_ldc hx hb hown (hgw _ (am_word_gw hc2 rfl)) hd (kk ls hl rfl)
  case ldc2_w x =>
    have hln : len = 3 := by simpa [am_sws, am_len] using hln
    subst hln
    cases hstep
    exact lv_ldc2 hx hb hown (hgw _ (am_word_gw hc2 rfl)) hd (kk ls hl rfl)
  case iload j =>
    have hln : len = 2 := by simpa [am_sws, am_len] using hln
    subst hln
    obtain ⟨v, hv, hk, rfl⟩ := am_load_inv hstep
    obtain ⟨x, rfl⟩ := am_k0 hk
    exact lv_iload hx hb hd (hl.2.2.2 _ _ hv) (kk ls hl rfl)
  case iload_n j =>
    have hln : len = 1 := by simpa [am_sws, am_len] using hln
    subst hln
    obtain ⟨v, hv, hk, rfl⟩ := am_load_inv hstep
    obtain ⟨x, rfl⟩ := am_k0 hk
    exact lv_iload_n hx hb hd rfl (hl.2.2.2 _ _ hv) (kk ls hl rfl)
  case lload j =>
    have hln : len = 2 := by simpa [am_sws, am_len] using hln
    subst hln
    obtain ⟨v, hv, hk, rfl⟩ := am_load_inv hstep
    obtain ⟨x, rfl⟩ := am_k1 hk
    exact lv_lload hx hb hd (hl.2.2.2 _ _ hv) (kk ls hl rfl)
  case lload_n j =>
    have hln : len = 1 := by simpa [am_sws, am_len] using hln
    subst hln
    obtain ⟨v, hv, hk, rfl⟩ := am_load_inv hstep
    obtain ⟨x, rfl⟩ := am_k1 hk
    exact lv_lload_n hx hb hd rfl (hl.2.2.2 _ _ hv) (kk ls hl rfl)
  case aload j =>
    have hln : len = 2 := by simpa [am_sws, am_len] using hln
    subst hln
    obtain ⟨v, hv, hk, rfl⟩ := am_load_inv hstep
    obtain ⟨x, rfl⟩ := am_k2 hk
    exact lv_aload hx hb hd (hl.2.2.2 _ _ hv) (kk ls hl rfl)
  case aload_n j =>
    have hln : len = 1 := by simpa [am_sws, am_len] using hln
    subst hln
    obtain ⟨v, hv, hk, rfl⟩ := am_load_inv hstep
    obtain ⟨x, rfl⟩ := am_k2 hk
    exact lv_aload_n hx hb hd rfl (hl.2.2.2 _ _ hv) (kk ls hl rfl)
  case istore j =>
    have hln : len = 2 := by simpa [am_sws, am_len] using hln
    subst hln
    obtain ⟨v, st', rfl, hk, hj, rfl⟩ := am_store_inv hstep
    obtain ⟨x, rfl⟩ := am_k0 hk
    have hj : j < (M k).2.2.1 := by rw [← hl.2.2.1]; omega
    exact lv_istore hx hb hd hpair hj rfl (fun ls' h' => kk ls' (am_ls_set1 (v := .int x) hl rfl h') rfl)
  case istore_n j =>
    have hln : len = 1 := by simpa [am_sws, am_len] using hln
    subst hln
    obtain ⟨v, st', rfl, hk, hj, rfl⟩ := am_store_inv hstep
    obtain ⟨x, rfl⟩ := am_k0 hk
    have hj : (j : Nat) < (M k).2.2.1 := by rw [← hl.2.2.1]; omega
    exact lv_istore_n hx hb hd rfl hpair hj rfl (fun ls' h' => kk ls' (am_ls_set1 (v := .int x) hl rfl h') rfl)
  case lstore j =>
    have hln : len = 2 := by simpa [am_sws, am_len] using hln
    subst hln
    obtain ⟨v, st', rfl, hk, hj, rfl⟩ := am_store_inv hstep
    obtain ⟨x, rfl⟩ := am_k1 hk
    have hj : j + 1 < (M k).2.2.1 := by rw [← hl.2.2.1]; omega
    exact lv_lstore hx hb hd hpair hj rfl (fun ls' h' => kk ls' (am_ls_set2 (v := .long x) hl rfl h') rfl)
  case lstore_n j =>
    have hln : len = 1 := by simpa [am_sws, am_len] using hln
    subst hln
    obtain ⟨v, st', rfl, hk, hj, rfl⟩ := am_store_inv hstep
    obtain ⟨x, rfl⟩ := am_k1 hk
    have hj : (j : Nat) + 1 < (M k).2.2.1 := by rw [← hl.2.2.1]; omega
    exact lv_lstore_n hx hb hd rfl hpair hj rfl (fun ls' h' => kk ls' (am_ls_set2 (v := .long x) hl rfl h') rfl)
  case astore j =>
    have hln : len = 2 := by simpa [am_sws, am_len] using hln
    subst hln
    obtain ⟨v, st', rfl, hk, hj, rfl⟩ := am_store_inv hstep
    obtain ⟨x, rfl⟩ := am_k2 hk
    have hj : j < (M k).2.2.1 := by rw [← hl.2.2.1]; omega
    exact lv_astore hx hb hd hpair hj rfl (fun ls' h' => kk ls' (am_ls_set1 (v := .ref x) hl rfl h') rfl)
  case astore_n j =>
    have hln : len = 1 := by simpa [am_sws, am_len] using hln
    subst hln
    obtain ⟨v, st', rfl, hk, hj, rfl⟩ := am_store_inv hstep
    obtain ⟨x, rfl⟩ := am_k2 hk
    have hj : (j : Nat) < (M k).2.2.1 := by rw [← hl.2.2.1]; omega
    exact lv_astore_n hx hb hd rfl hpair hj rfl (fun ls' h' => kk ls' (am_ls_set1 (v := .ref x) hl rfl h') rfl)
  case iinc j n =>
    have hln : len = 3 := by simpa [am_sws, am_len] using hln
    subst hln
    simp only [am_step] at hstep
    split at hstep
    · rename_i x hv
      cases hstep
      have hj : j < (M k).2.2.1 := by rw [← hl.2.2.1]; exact (List.getElem?_eq_some_iff.mp hv).1
      obtain ⟨kp, hkp⟩ := List.getElem?_of_mem (am_pairs_mem (G := G) (q := (j, .int x)) |>.mpr ⟨_, hv, rfl⟩)
      exact lv_iinc hx hb hd hpair hkp rfl hj rfl (fun ls' h' => kk ls' (am_ls_set1 (v := .int (x + Int32.ofInt n)) hl rfl h') rfl)
    · cases hstep
  case iadd =>
    have hln : len = 1 := by simpa [am_sws, am_len] using hln
    subst hln
    simp only [am_step] at hstep
    split at hstep
    · rename_i y x r
      simp only [am_ib] at hstep
      cases hstep
      exact lv_iadd hx hb hd (kk ls hl rfl)
    · cases hstep
  case isub =>
    have hln : len = 1 := by simpa [am_sws, am_len] using hln
    subst hln
    simp only [am_step] at hstep
    split at hstep
    · rename_i y x r
      simp only [am_ib] at hstep
      cases hstep
      exact lv_isub hx hb hd (kk ls hl rfl)
    · cases hstep
  case imul =>
    have hln : len = 1 := by simpa [am_sws, am_len] using hln
    subst hln
    simp only [am_step] at hstep
    split at hstep
    · rename_i y x r
      simp only [am_ib] at hstep
      cases hstep
      exact lv_imul hx hb hd (kk ls hl rfl)
    · cases hstep
  case idiv =>
    have hln : len = 1 := by simpa [am_sws, am_len] using hln
    subst hln
    simp only [am_step] at hstep
    split at hstep
    · rename_i y x r
      simp only [am_ib] at hstep
      by_cases hy : y = 0
      · rw [if_pos hy] at hstep; cases hstep
      · rw [if_neg hy] at hstep; cases hstep; exact lv_idiv hx hb hd hy (kk ls hl rfl)
    · cases hstep
  case irem =>
    have hln : len = 1 := by simpa [am_sws, am_len] using hln
    subst hln
    simp only [am_step] at hstep
    split at hstep
    · rename_i y x r
      simp only [am_ib] at hstep
      by_cases hy : y = 0
      · rw [if_pos hy] at hstep; cases hstep
      · rw [if_neg hy] at hstep; cases hstep; exact lv_irem hx hb hd hy (kk ls hl rfl)
    · cases hstep
  case iand =>
    have hln : len = 1 := by simpa [am_sws, am_len] using hln
    subst hln
    simp only [am_step] at hstep
    split at hstep
    · rename_i y x r
      simp only [am_ib] at hstep
      cases hstep
      exact lv_iand hx hb hd (kk ls hl rfl)
    · cases hstep
  case ior =>
    have hln : len = 1 := by simpa [am_sws, am_len] using hln
    subst hln
    simp only [am_step] at hstep
    split at hstep
    · rename_i y x r
      simp only [am_ib] at hstep
      cases hstep
      exact lv_ior hx hb hd (kk ls hl rfl)
    · cases hstep
  case ixor =>
    have hln : len = 1 := by simpa [am_sws, am_len] using hln
    subst hln
    simp only [am_step] at hstep
    split at hstep
    · rename_i y x r
      simp only [am_ib] at hstep
      cases hstep
      exact lv_ixor hx hb hd (kk ls hl rfl)
    · cases hstep
  case ishl =>
    have hln : len = 1 := by simpa [am_sws, am_len] using hln
    subst hln
    simp only [am_step] at hstep
    split at hstep
    · rename_i y x r
      simp only [am_ib] at hstep
      cases hstep
      exact lv_ishl hx hb hd (kk ls hl rfl)
    · cases hstep
  case ishr =>
    have hln : len = 1 := by simpa [am_sws, am_len] using hln
    subst hln
    simp only [am_step] at hstep
    split at hstep
    · rename_i y x r
      simp only [am_ib] at hstep
      cases hstep
      exact lv_ishr hx hb hd (kk ls hl rfl)
    · cases hstep
  case iushr =>
    have hln : len = 1 := by simpa [am_sws, am_len] using hln
    subst hln
    simp only [am_step] at hstep
    split at hstep
    · rename_i y x r
      simp only [am_ib] at hstep
      cases hstep
      exact lv_iushr hx hb hd rfl (kk ls hl rfl)
    · cases hstep
  case ladd =>
    have hln : len = 1 := by simpa [am_sws, am_len] using hln
    subst hln
    simp only [am_step] at hstep
    split at hstep
    · rename_i y x r
      simp only [am_lb] at hstep
      cases hstep
      exact lv_ladd hx hb hd (kk ls hl rfl)
    · cases hstep
  case lsub =>
    have hln : len = 1 := by simpa [am_sws, am_len] using hln
    subst hln
    simp only [am_step] at hstep
    split at hstep
    · rename_i y x r
      simp only [am_lb] at hstep
      cases hstep
      exact lv_lsub hx hb hd (kk ls hl rfl)
    · cases hstep
  case lmul =>
    have hln : len = 1 := by simpa [am_sws, am_len] using hln
    subst hln
    simp only [am_step] at hstep
    split at hstep
    · rename_i y x r
      simp only [am_lb] at hstep
      cases hstep
      exact lv_lmul hx hb hd (kk ls hl rfl)
    · cases hstep
  case ldiv =>
    have hln : len = 1 := by simpa [am_sws, am_len] using hln
    subst hln
    simp only [am_step] at hstep
    split at hstep
    · rename_i y x r
      simp only [am_lb] at hstep
      by_cases hy : y = 0
      · rw [if_pos hy] at hstep; cases hstep
      · rw [if_neg hy] at hstep; cases hstep; exact lv_ldiv hx hb hd hy (kk ls hl rfl)
    · cases hstep
  case lrem =>
    have hln : len = 1 := by simpa [am_sws, am_len] using hln
    subst hln
    simp only [am_step] at hstep
    split at hstep
    · rename_i y x r
      simp only [am_lb] at hstep
      by_cases hy : y = 0
      · rw [if_pos hy] at hstep; cases hstep
      · rw [if_neg hy] at hstep; cases hstep; exact lv_lrem hx hb hd hy (kk ls hl rfl)
    · cases hstep
  case land =>
    have hln : len = 1 := by simpa [am_sws, am_len] using hln
    subst hln
    simp only [am_step] at hstep
    split at hstep
    · rename_i y x r
      simp only [am_lb] at hstep
      cases hstep
      exact lv_land hx hb hd (kk ls hl rfl)
    · cases hstep
  case lor =>
    have hln : len = 1 := by simpa [am_sws, am_len] using hln
    subst hln
    simp only [am_step] at hstep
    split at hstep
    · rename_i y x r
      simp only [am_lb] at hstep
      cases hstep
      exact lv_lor hx hb hd (kk ls hl rfl)
    · cases hstep
  case lxor =>
    have hln : len = 1 := by simpa [am_sws, am_len] using hln
    subst hln
    simp only [am_step] at hstep
    split at hstep
    · rename_i y x r
      simp only [am_lb] at hstep
      cases hstep
      exact lv_lxor hx hb hd (kk ls hl rfl)
    · cases hstep
  case lcmp =>
    have hln : len = 1 := by simpa [am_sws, am_len] using hln
    subst hln
    simp only [am_step] at hstep
    split at hstep
    · rename_i y x r
      simp only [am_lb] at hstep
      cases hstep
      exact W.lcmp hx hb hd (kk ls hl rfl)
    · cases hstep
  case lshl =>
    have hln : len = 1 := by simpa [am_sws, am_len] using hln
    subst hln
    simp only [am_step] at hstep
    split at hstep
    · rename_i y x r
      cases hstep
      exact lv_lshl hx hb hd rfl (kk ls hl rfl)
    · cases hstep
  case ineg =>
    have hln : len = 1 := by simpa [am_sws, am_len] using hln
    subst hln
    simp only [am_step] at hstep
    split at hstep
    · rename_i v r
      cases v with
      | int x =>
        simp only [am_un] at hstep
        cases hstep
        exact lv_ineg hx hb hd (kk ls hl rfl)
      | _ => simp [am_un] at hstep
    · cases hstep
  case lneg =>
    have hln : len = 1 := by simpa [am_sws, am_len] using hln
    subst hln
    simp only [am_step] at hstep
    split at hstep
    · rename_i v r
      cases v with
      | long x =>
        simp only [am_un] at hstep
        cases hstep
        exact lv_lneg hx hb hd (kk ls hl rfl)
      | _ => simp [am_un] at hstep
    · cases hstep
  case i2l =>
    have hln : len = 1 := by simpa [am_sws, am_len] using hln
    subst hln
    simp only [am_step] at hstep
    split at hstep
    · rename_i v r
      cases v with
      | int x =>
        simp only [am_un] at hstep
        cases hstep
        exact lv_i2l hx hb hd rfl (kk ls hl rfl)
      | _ => simp [am_un] at hstep
    · cases hstep
  case l2i =>
    have hln : len = 1 := by simpa [am_sws, am_len] using hln
    subst hln
    simp only [am_step] at hstep
    split at hstep
    · rename_i v r
      cases v with
      | long x =>
        simp only [am_un] at hstep
        cases hstep
        exact lv_l2i hx hb hd rfl (kk ls hl rfl)
      | _ => simp [am_un] at hstep
    · cases hstep
  case i2c =>
    have hln : len = 1 := by simpa [am_sws, am_len] using hln
    subst hln
    simp only [am_step] at hstep
    split at hstep
    · rename_i v r
      cases v with
      | int x =>
        simp only [am_un] at hstep
        cases hstep
        exact lv_i2c hx hb hd rfl (kk ls hl rfl)
      | _ => simp [am_un] at hstep
    · cases hstep
  case i2b =>
    have hln : len = 1 := by simpa [am_sws, am_len] using hln
    subst hln
    simp only [am_step] at hstep
    split at hstep
    · rename_i v r
      cases v with
      | int x =>
        simp only [am_un] at hstep
        cases hstep
        exact lv_i2b hx hb hd rfl (kk ls hl rfl)
      | _ => simp [am_un] at hstep
    · cases hstep
  case i2s =>
    have hln : len = 1 := by simpa [am_sws, am_len] using hln
    subst hln
    simp only [am_step] at hstep
    split at hstep
    · rename_i v r
      cases v with
      | int x =>
        simp only [am_un] at hstep
        cases hstep
        exact lv_i2s hx hb hd rfl (kk ls hl rfl)
      | _ => simp [am_un] at hstep
    · cases hstep
  case dup =>
    have hln : len = 1 := by simpa [am_sws, am_len] using hln
    subst hln
    simp only [am_step] at hstep
    split at hstep
    · rename_i v r
      split at hstep
      · rename_i hv
        cases hstep
        exact lv_dup hx hb hd (by rw [am_v_cat]; exact hv) (kk ls hl rfl)
      · cases hstep
    · cases hstep
  case pop =>
    have hln : len = 1 := by simpa [am_sws, am_len] using hln
    subst hln
    simp only [am_step] at hstep
    split at hstep
    · rename_i v r
      split at hstep
      · rename_i hv
        cases hstep
        exact lv_pop hx hb hd (by rw [am_v_cat]; exact hv) (kk ls hl rfl)
      · cases hstep
    · cases hstep
  case pop2 =>
    have hln : len = 1 := by simpa [am_sws, am_len] using hln
    subst hln
    simp only [am_step] at hstep
    split at hstep
    · rename_i v r
      split at hstep
      · rename_i hv
        cases hstep
        exact lv_pop2_2 hx hb hd (by rw [am_v_cat]; exact hv) (kk ls hl rfl)
      · cases hstep
    · cases hstep
  case dup2 =>
    have hln : len = 1 := by simpa [am_sws, am_len] using hln
    subst hln
    simp only [am_step] at hstep
    split at hstep
    · rename_i v r
      split at hstep
      · rename_i hv
        cases hstep
        exact lv_dup2_2 hx hb hd (by rw [am_v_cat]; exact hv) (kk ls hl rfl)
      · split at hstep
        · rename_i w2 r2
          split at hstep
          · rename_i hvw
            cases hstep
            exact lv_dup2_11 hx hb hd (by rw [am_v_cat]; exact hvw.1) (by rw [am_v_cat]; exact hvw.2) (kk ls hl rfl)
          · cases hstep
        · cases hstep
    · cases hstep
  case goto off =>
    have hln : len = 3 := by simpa [am_sws, am_len] using hln
    subst hln
    have ht : (pc : Int) + off = (a : Int) := of_decide_eq_true hc2
    cases hstep
    exact lv_goto hx hb hd ht (kk ls hl rfl)
  case ifCond o off =>
    have hln : len = 3 := by simpa [am_sws, am_len] using hln
    subst hln
    have ht : (pc : Int) + off = (a : Int) := of_decide_eq_true hc2
    simp only [am_step] at hstep
    split at hstep
    · rename_i x r
      cases hstep
      cases o
      case eq => exact lv_if_eq hx hb hd ht (fun h => by have kk := kk ls hl rfl; simp only [am_c1, h, decide_true, if_true] at kk; simpa [am_c1, h] using kk) (fun h => by have kk := kk ls hl rfl; simpa [am_c1, h] using kk)
      case ne => exact lv_if_ne hx hb hd ht (fun h => by have kk := kk ls hl rfl; simp only [am_c1, h, decide_true, if_true] at kk; simpa [am_c1, h] using kk) (fun h => by have kk := kk ls hl rfl; simpa [am_c1, h] using kk)
      case lt => exact lv_if_lt hx hb hd ht (fun h => by have kk := kk ls hl rfl; simp only [am_c1, h, decide_true, if_true] at kk; simpa [am_c1, h] using kk) (fun h => by have kk := kk ls hl rfl; simpa [am_c1, h] using kk)
      case ge => exact lv_if_ge hx hb hd ht (fun h => by have kk := kk ls hl rfl; simp only [am_c1, h, decide_true, if_true] at kk; simpa [am_c1, h] using kk) (fun h => by have kk := kk ls hl rfl; simpa [am_c1, h] using kk)
      case gt => exact lv_if_gt hx hb hd ht (fun h => by have kk := kk ls hl rfl; simp only [am_c1, h, decide_true, if_true] at kk; simpa [am_c1, h] using kk) (fun h => by have kk := kk ls hl rfl; simpa [am_c1, h] using kk)
      case le => exact lv_if_le hx hb hd ht (fun h => by have kk := kk ls hl rfl; simp only [am_c1, h, decide_true, if_true] at kk; simpa [am_c1, h] using kk) (fun h => by have kk := kk ls hl rfl; simpa [am_c1, h] using kk)
    · cases hstep
  case if_icmp o off =>
    have hln : len = 3 := by simpa [am_sws, am_len] using hln
    subst hln
    have ht : (pc : Int) + off = (a : Int) := of_decide_eq_true hc2
    simp only [am_step] at hstep
    split at hstep
    · rename_i y x r
      cases hstep
      cases o
      case eq => exact lv_icmp_eq hx hb hd ht (fun h => by have kk := kk ls hl rfl; simpa [am_c2, h] using kk) (fun h => by have kk := kk ls hl rfl; simpa [am_c2, h] using kk)
      case ne => exact lv_icmp_ne hx hb hd ht (fun h => by have kk := kk ls hl rfl; simpa [am_c2, h] using kk) (fun h => by have kk := kk ls hl rfl; simpa [am_c2, h] using kk)
      case lt => exact lv_icmp_lt hx hb hd ht (fun h => by have kk := kk ls hl rfl; simpa [am_c2, h] using kk) (fun h => by have kk := kk ls hl rfl; simpa [am_c2, h] using kk)
      case ge => exact lv_icmp_ge hx hb hd ht (fun h => by have kk := kk ls hl rfl; simpa [am_c2, h] using kk) (fun h => by have kk := kk ls hl rfl; simpa [am_c2, h] using kk)
      case gt => exact lv_icmp_gt hx hb hd ht (fun h => by have kk := kk ls hl rfl; simpa [am_c2, h] using kk) (fun h => by have kk := kk ls hl rfl; simpa [am_c2, h] using kk)
      case le => exact lv_icmp_le hx hb hd ht (fun h => by have kk := kk ls hl rfl; simpa [am_c2, h] using kk) (fun h => by have kk := kk ls hl rfl; simpa [am_c2, h] using kk)
    · cases hstep
  case tableswitch dflt lo hi offs =>
    simp only [am_chk2, Bool.and_eq_true, decide_eq_true_eq, List.all_eq_true] at hc2
    obtain ⟨⟨h0, h1⟩, h2⟩ := hc2
    simp only [am_step] at hstep
    split at hstep
    · rename_i x r
      cases hstep
      by_cases hr : x.toInt < lo ∨ hi < x.toInt
      · refine lv_tableOut (tgt := ((pc : Int) + dflt).toNat) hx hb hd hr (Int.toNat_of_nonneg h0).symm ?_
        have kk := kk ls hl rfl
        simpa only [am_sw, if_pos hr] using kk
      · have hi1 : ¬ x.toInt < lo := fun q => hr (Or.inl q)
        have hi2 : ¬ hi < x.toInt := fun q => hr (Or.inr q)
        have hlt : (x.toInt - lo).toNat < offs.size := by omega
        have ho : offs[(x.toInt - lo).toNat]? = some offs[(x.toInt - lo).toNat] := Array.getElem?_eq_getElem hlt
        have hn := h1 _ (Array.getElem_mem_toList hlt)
        refine lv_tableIn (tgt := ((pc : Int) + offs[(x.toInt - lo).toNat]).toNat) hx hb hd hi1 hi2 ho (Int.toNat_of_nonneg hn).symm ?_
        have kk := kk ls hl rfl
        simpa only [am_sw, if_neg hr, ho, Option.getD_some] using kk
    · cases hstep
  case lookupswitch dflt ps =>
    simp only [am_chk2, Bool.and_eq_true, decide_eq_true_eq] at hc2
    obtain ⟨⟨h0, h1⟩, h2⟩ := hc2
    simp only [am_step] at hstep
    split at hstep
    · rename_i x r
      cases hstep
      exact lv_lookup hx hb hd h0 rfl (Int.toNat_of_nonneg (am_look_nn h1 (fun q hq => of_decide_eq_true (List.all_eq_true.mp h2 q hq)) x.toInt)).symm (kk ls hl rfl)
    · cases hstep
  all_goals (exfalso; simp [am_step] at hstep; done)
end AMP
end
section
/-! one step of the small machine is one of the machine: instructions that read or change the heap -/
theorem am_uws0 : ∀ w ∈ u_ws RX0 TX0 9, w ∈ am_gw := by decide +kernel
theorem am_uws1 : ∀ w ∈ u_ws RX1 TX1 10, w ∈ am_gw := by decide +kernel
theorem am_uws2 : ∀ w ∈ u_ws RX2 TX2 12, w ∈ am_gw := by decide +kernel
theorem am_uws3 : ∀ w ∈ u_ws RX3 TX3 7, w ∈ am_gw := by decide +kernel
theorem am_uws4 : ∀ w ∈ u_ws RX4 TX4 7, w ∈ am_gw := by decide +kernel
theorem am_uws5 : ∀ w ∈ u_ws RX5 TX5 8, w ∈ am_gw := by decide +kernel
theorem am_uws6 : ∀ w ∈ u_ws RX6 TX6 2, w ∈ am_gw := by decide +kernel
theorem am_uws7 : ∀ w ∈ u_ws RX7 TX7 7, w ∈ am_gw := by decide +kernel
theorem am_uws8 : ∀ w ∈ u_ws RX8 TX8 7, w ∈ am_gw := by decide +kernel
theorem am_uws9 : ∀ w ∈ u_ws RX9 TX9 10, w ∈ am_gw := by decide +kernel
theorem am_uws10 : ∀ w ∈ u_ws RX10 TX10 58, w ∈ am_gw := by decide +kernel
/-- what the tables and the names say of each class -/
theorem am_cls {ci : Nat} {q : vw_C} (h : vwCl[ci]? = some q) : (∀ w ∈ u_ws q.1 q.2.1 q.2.2, w ∈ am_gw) ∧ (∀ k, k < q.2.2 → parseFieldDescriptor (q.2.1 k).2.2.1 = some (am_fty ci k)) ∧ (∀ a, a < q.2.2 → ∀ b, b < q.2.2 → a ≠ b → (q.2.1 a).2.1 ≠ (q.2.1 b).2.1) ∧ q.2.2 = am_cn ci ∧ ci < 11 := by
  match ci, h with
  | 0, h => cases h; exact ⟨am_uws0, tyX0_ok, nmX0, rfl, by decide⟩
  | 1, h => cases h; exact ⟨am_uws1, tyX1_ok, nmX1, rfl, by decide⟩
  | 2, h => cases h; exact ⟨am_uws2, tyX2_ok, nmX2, rfl, by decide⟩
  | 3, h => cases h; exact ⟨am_uws3, tyX3_ok, nmX3, rfl, by decide⟩
  | 4, h => cases h; exact ⟨am_uws4, tyX4_ok, nmX4, rfl, by decide⟩
  | 5, h => cases h; exact ⟨am_uws5, tyX5_ok, nmX5, rfl, by decide⟩
  | 6, h => cases h; exact ⟨am_uws6, tyX6_ok, nmX6, rfl, by decide⟩
  | 7, h => cases h; exact ⟨am_uws7, tyX7_ok, nmX7, rfl, by decide⟩
  | 8, h => cases h; exact ⟨am_uws8, tyX8_ok, nmX8, rfl, by decide⟩
  | 9, h => cases h; exact ⟨am_uws9, tyX9_ok, nmX9, rfl, by decide⟩
  | 10, h => cases h; exact ⟨am_uws10, tyX10_ok, nmX10, rfl, by decide⟩
  | k + 11, h => simp [vwCl] at h
theorem am_in_vp {j : Int32} {n : Nat} (h : am_in j n = true) : vp_in j n := by
  unfold am_in at h
  have h1 := of_decide_eq_true h
  exact h1
theorem am_get_inv {S : am_S} {o : Nat} {x : am_C} (h : am_get S o = some x) : o < S.1 ∧ S.2.1 o = x := by
  unfold am_get at h
  split at h
  · rename_i hlt
    exact ⟨hlt, Option.some.inj h⟩
  · cases h
theorem am_v_rf (G : am_G) (r : Option Nat) : am_v G (va_rf r) = va_rf (r.map (am_ad G)) := by cases r <;> rfl
theorem am_v_narrow {G : am_G} {ty : FieldType} {v : Value} (h : narrow ty v = v) : narrow ty (am_v G v) = am_v G v := by
  cases v <;> first | exact h | (cases ty <;> rfl)
theorem am_v_fits {G : am_G} {ty : FieldType} {v : Value} (h : fits ty v = true) : fits ty (am_v G v) = true := by
  cases v <;> first | exact h | (cases ty <;> first | rfl | exact h)
theorem am_v_def (G : am_G) (ty : FieldType) : am_v G (defaultValue ty) = defaultValue ty := by cases ty <;> rfl
theorem am_tys_at (G : am_G) {t : Nat} (h : t < 6) : (am_tys G)[t]? = some (G.2.1 t, am_ty t) := by simp [am_tys, h]
theorem am_oi1 : Cond.instanceMethod objectInit ∈ am_gw := by decide +kernel
theorem am_oi2 : Cond.code objectInit ⟨#[0xb1]⟩ 1 none ∈ am_gw := by decide +kernel
theorem am_ini {ci : Nat} {q : vw_C} (h : vwCl[ci]? = some q) : Cond.initialized q.1 ∈ am_gw ∧ Cond.instantiable q.1 q.2.2 ∈ am_gw := by
  match ci, h with
  | 0, h => cases h; exact ⟨by decide +kernel, by decide +kernel⟩
  | 1, h => cases h; exact ⟨by decide +kernel, by decide +kernel⟩
  | 2, h => cases h; exact ⟨by decide +kernel, by decide +kernel⟩
  | 3, h => cases h; exact ⟨by decide +kernel, by decide +kernel⟩
  | 4, h => cases h; exact ⟨by decide +kernel, by decide +kernel⟩
  | 5, h => cases h; exact ⟨by decide +kernel, by decide +kernel⟩
  | 6, h => cases h; exact ⟨by decide +kernel, by decide +kernel⟩
  | 7, h => cases h; exact ⟨by decide +kernel, by decide +kernel⟩
  | 8, h => cases h; exact ⟨by decide +kernel, by decide +kernel⟩
  | 9, h => cases h; exact ⟨by decide +kernel, by decide +kernel⟩
  | 10, h => cases h; exact ⟨by decide +kernel, by decide +kernel⟩
  | k + 11, h => simp [vwCl] at h
theorem am_acls : Cond.arrayClass .int ∈ am_gw ∧ Cond.arrayClass .long ∈ am_gw ∧ Cond.arrayClass .byte ∈ am_gw ∧ Cond.arrayClass .char ∈ am_gw := ⟨by decide +kernel, by decide +kernel, by decide +kernel, by decide +kernel⟩
theorem am_blank_V {ci : Nat} : ∀ j, j < am_cn ci → defaultValue (am_fty ci j) = vp_V (am_blank ci) j := by
  intro j hj
  simp [vp_V, am_blank, hj]
theorem am_blank_v (G : am_G) (ci : Nat) : (am_blank ci).map (am_v G) = am_blank ci := by
  unfold am_blank
  rw [List.map_map]
  exact List.map_congr_left fun k _ => am_v_def G _
/-- the number of a new cell -/
theorem am_fresh {G : am_G} {S : am_S} {q : Nat} {x : va_E} {H1 : Heap} {z : Nat} (hP : va_P G.1 vwCl (am_ws G S ++ [(q, x)]) H1) (hD : va_D (am_A G) (am_ws G S ++ [(q, x)])) (hz : H1.size ≤ z) (h : z ≤ am_b0 G + S.1 + 1) : q = am_b0 G + S.1 := by
  have hq : (am_ws G S ++ [(q, x)])[S.1]? = some (q, x) := by
    rw [List.getElem?_append_right (by rw [am_ws_len]; exact Nat.le_refl _), am_ws_len, Nat.sub_self]
    rfl
  have h1 : q < H1.size := (hP _ _ hq).lt
  have h2 : am_b0 G ≤ q := hD.2 _ _ hq
  have h3 : ¬ q < am_b0 G + S.1 := by
    intro h4
    have h5 : q - am_b0 G < S.1 := by omega
    have h6 := hD.1 (q - am_b0 G) S.1 _ _ (by rw [List.getElem?_append_left (by rw [am_ws_len]; exact h5)]; exact am_ws_at h5) hq (show am_b0 G + (q - am_b0 G) = q by omega)
    omega
  omega
end
section
/-! one step of the small machine is one of the machine: instructions that read or change the heap -/
section AMH
variable {p : Program} {l : Launch} {e : Env} {R : Room} {s : State} {m : MethodId} {args : Array Value} {below : List Frame} {meth : Method} {c : Code} {H : Heap} {locs : List Loc} {cells slots : Nat} {Q : State → Prop}
variable {M : Nat → am_M} {G : am_G} {k pc : Nat} {ls : Array Slot}
theorem am_bysize {g : JFrame} (h : H.size ≤ s.heap.size + cells → W p l e R s m args below meth c H locs cells slots Q g) : W p l e R s m args below meth c H locs cells slots Q g :=
  fun T hT X => h (by rw [← hT]; exact X.heapSize) T hT X
theorem am_eqW {n1 n2 m1 m2 : Nat} {g : JFrame} (h1 : n1 = n2) (h2 : m1 = m2) (h : W p l e R s m args below meth c H locs n1 m1 Q g) : W p l e R s m args below meth c H locs n2 m2 Q g := by subst h1; subst h2; exact h
set_option maxHeartbeats 4000000 in
theorem am_step_getf (C : am_ctx M G p s m args meth c k) {x a b w : Nat} {cst : Int} {L : am_L} {st : List Value} {S : am_S} {q : am_F}
    (hchk : am_chk M k pc (.getfield x, 3, a, b, w, cst) = true) (hstep : am_getf a b (pc + 3) L st S = some q) (hw : am_world G S H) (hS : va_S (am_A G) s.heap H locs)
    (kk : q.2.1 = L → q.2.2.2 = S → W p l e R s m args below meth c H locs cells slots Q (F0 m q.1 ls (q.2.2.1.map (am_v G)))) :
    W p l e R s m args below meth c H locs cells slots Q (F0 m pc ls (st.map (am_v G))) := by
  obtain ⟨hx, hb, hml, hown, hgw, henv, hnm⟩ := C
  obtain ⟨hd, -, hc2⟩ := am_chk_sp hchk
  unfold am_getf at hstep
  split at hstep
  · rename_i o r
    split at hstep
    · rename_i c1 fs hg
      obtain ⟨ho, hcell⟩ := am_get_inv hg
      split at hstep
      · rename_i hca
        subst hca
        split at hstep
        · rename_i v hv
          cases hstep
          simp only [am_chk2] at hc2
          split at hc2
          · rename_i cq hcq
            rw [Bool.and_eq_true] at hc2
            obtain ⟨hw1, hb1⟩ := hc2
            obtain ⟨hu, -, -, -, -⟩ := am_cls hcq
            have he : (am_ws G S)[o]? = some (am_b0 G + o, .inr (c1, fs.map (am_v G))) := by rw [am_ws_at ho, hcell]; rfl
            have had : am_ad G o = am_b0 G + o := am_ad_low (by have := hw.2; omega)
            show W p l e R s m args below meth c H locs cells slots Q (F0 m pc ls (.ref (am_ad G o) :: r.map (am_v G)))
            rw [had]
            exact va_get (D := G.1) (ci := c1) (v := am_v G v) hx hb hgw hu hown henv.1 hw.1 o he hcq b (of_decide_eq_true hb1) (hgw _ (am_word_gw hw1 rfl)) (fun _ h9 => h9) (by rw [List.getElem?_map, hv]; rfl) hd (kk rfl rfl)
          · cases hc2
        · cases hstep
      · cases hstep
    · cases hstep
  · cases hstep
set_option maxHeartbeats 4000000 in
theorem am_step_putf (C : am_ctx M G p s m args meth c k) {x a b w : Nat} {cst : Int} {L : am_L} {st : List Value} {S : am_S} {q : am_F}
    (hchk : am_chk M k pc (.putfield x, 3, a, b, w, cst) = true) (hstep : am_putf a b (pc + 3) L st S = some q) (hw : am_world G S H) (hS : va_S (am_A G) s.heap H locs)
    (kk : ∀ H' locs', q.2.1 = L → am_world G q.2.2.2 H' → va_S (am_A G) s.heap H' locs' → W p l e R s m args below meth c H' locs' cells slots Q (F0 m q.1 ls (q.2.2.1.map (am_v G)))) :
    W p l e R s m args below meth c H locs cells slots Q (F0 m pc ls (st.map (am_v G))) := by
  obtain ⟨hx, hb, hml, hown, hgw, henv, hnm⟩ := C
  obtain ⟨hd, -, hc2⟩ := am_chk_sp hchk
  unfold am_putf at hstep
  split at hstep
  · rename_i v o r
    split at hstep
    · rename_i c1 fs hg
      obtain ⟨ho, hcell⟩ := am_get_inv hg
      split at hstep
      · rename_i hca
        obtain ⟨hca, hlen, hnar, hfit⟩ := hca
        subst hca
        cases hstep
        simp only [am_chk2] at hc2
        split at hc2
        · rename_i cq hcq
          rw [Bool.and_eq_true, Bool.and_eq_true] at hc2
          obtain ⟨⟨hw1, hb1⟩, hf1⟩ := hc2
          obtain ⟨hu, hty, hnms, -, -⟩ := am_cls hcq
          have he : (am_ws G S)[o]? = some (am_b0 G + o, .inr (c1, fs.map (am_v G))) := by rw [am_ws_at ho, hcell]; rfl
          have had : am_ad G o = am_b0 G + o := am_ad_low (by have := hw.2; omega)
          have hset : (am_ws G S).set o (am_b0 G + o, .inr (c1, (fs.map (am_v G)).set b (am_v G v))) = am_ws G (am_upd S o (.inr (c1, fs.set b v))) := by
            rw [← am_ws_upd _ ho]
            simp only [am_e, List.map_set]
          show W p l e R s m args below meth c H locs cells slots Q (F0 m pc ls (am_v G v :: .ref (am_ad G o) :: r.map (am_v G)))
          rw [had]
          cases hfin : (cq.2.1 b).2.2.2 with
          | false =>
            refine va_put (D := G.1) (ci := c1) (v := am_v G v) hx hb hgw hu (am_fty c1) hty hnms hown henv.1 hw.1 (am_ws_D G S) hS o he hcq b (of_decide_eq_true hb1) (hgw _ (am_word_gw hw1 rfl)) (fun _ h9 => h9) hfin (hty b (of_decide_eq_true hb1)) (am_v_narrow hnar) (am_v_fits hfit) (by rw [List.length_map]; exact hlen) hd (fun H1 locs1 hP1 hD1 hS1 => ?_)
            rw [hset] at hP1
            exact kk H1 locs1 rfl ⟨hP1, hw.2⟩ hS1
          | true =>
            rw [hfin] at hf1
            simp only [Bool.not_true, Bool.false_or, Bool.and_eq_true, decide_eq_true_eq] at hf1
            refine va_putF (D := G.1) (ci := c1) (v := am_v G v) hx hb hgw hu (am_fty c1) hty hnms hown henv.1 hw.1 (am_ws_D G S) hS o he hcq b (of_decide_eq_true hb1) (hgw _ (am_word_gw hw1 rfl)) (fun _ h9 => h9) hfin (hnm.trans hf1.1) hf1.2 (hty b (of_decide_eq_true hb1)) (am_v_narrow hnar) (am_v_fits hfit) (by rw [List.length_map]; exact hlen) hd (fun H1 locs1 hP1 hD1 hS1 => ?_)
            rw [hset] at hP1
            exact kk H1 locs1 rfl ⟨hP1, hw.2⟩ hS1
        · cases hc2
      · cases hstep
    · cases hstep
  · cases hstep
/-- what is read of an array -/
theorem am_step_aload (C : am_ctx M G p s m args meth c k) {op : Instr} {t a b w : Nat} {cst : Int} {L : am_L} {st : List Value} {S : am_S} {q : am_F}
    (hop : (op = .iaload ∧ t = 0) ∨ (op = .laload ∧ t = 1) ∨ (op = .baload ∧ t = 2) ∨ (op = .caload ∧ t = 3) ∨ (op = .aaload ∧ t = 4))
    (hchk : am_chk M k pc (op, 1, a, b, w, cst) = true) (hstep : am_aload t (pc + 1) L st S (am_X G) = some q) (hw : am_world G S H) (hS : va_S (am_A G) s.heap H locs)
    (kk : q.2.1 = L → q.2.2.2 = S → W p l e R s m args below meth c H locs cells slots Q (F0 m q.1 ls (q.2.2.1.map (am_v G)))) :
    W p l e R s m args below meth c H locs cells slots Q (F0 m pc ls (st.map (am_v G))) := by
  obtain ⟨hx, hb, hml, hown, hgw, henv, hnm⟩ := C
  obtain ⟨hd, -, -⟩ := am_chk_sp hchk
  dsimp only at hd
  unfold am_aload at hstep
  split at hstep
  · rename_i j o r
    split at hstep
    · rename_i n f hro
      split at hstep
      · rename_i ht
        obtain ⟨rfl, hj⟩ := ht
        cases hstep
        rcases hop with ⟨rfl, -⟩ | ⟨-, h9⟩ | ⟨-, h9⟩ | ⟨-, h9⟩ | ⟨-, h9⟩
        · unfold am_ro at hro
          split at hro
          · rename_i ho
            subst ho
            have e := Option.some.inj hro
            have hX := henv.2.2.2.1
            rw [e] at hX
            exact va_sld hx hb hX.1 (Nat.lt_of_lt_of_le hX.2 henv.2.2.2.2.2.2.2.1) (fun h9 => absurd (show am_b0 G ≤ G.2.2.2.1 from h9) (Nat.not_le.mpr hX.2)) hS (am_in_vp hj) hd (kk rfl rfl)
          · split at hro
            · rename_i ho
              subst ho
              have e := Option.some.inj hro
              have hX := henv.2.2.2.2.1
              cases e
              exact va_ti hx hb hX.2.1 hS (am_in_vp hj) rfl hd (kk rfl rfl)
            · cases hro
        all_goals exact absurd h9 (by decide)
      · cases hstep
    · rename_i hro
      have had : ∀ {x : am_C}, am_get S o = some x → am_ad G o = am_b0 G + o := fun hg => am_ad_low (by have := hw.2; have := (am_get_inv hg).1; omega)
      split at hstep
      · rename_i u n f hg
        obtain ⟨ho, hcell⟩ := am_get_inv hg
        split at hstep
        · rename_i ht
          obtain ⟨rfl, ht1, ht4, hj⟩ := ht
          cases hstep
          have he : (am_ws G S)[o]? = some (am_b0 G + o, .inl (G.2.1 u, n, .inl f)) := by rw [am_ws_at ho, hcell]; rfl
          show W p l e R s m args below meth c H locs cells slots Q (F0 m pc ls (.int j :: .ref (am_ad G o) :: r.map (am_v G)))
          rw [had hg]
          rcases hop with ⟨rfl, rfl⟩ | ⟨-, rfl⟩ | ⟨rfl, rfl⟩ | ⟨rfl, rfl⟩ | ⟨-, rfl⟩
          · exact va_iald hx hb henv.1 hw.1 o 0 he (am_tys_at G (by decide)) (am_in_vp hj) hd (kk rfl rfl)
          · exact absurd rfl ht1
          · exact va_bald hx hb henv.1 hw.1 o 2 he (am_tys_at G (by decide)) (am_in_vp hj) hd (kk rfl rfl)
          · exact va_cald hx hb henv.1 hw.1 o 3 he (am_tys_at G (by decide)) (am_in_vp hj) hd (kk rfl rfl)
          · exact absurd ht4 (by decide)
        · cases hstep
      · rename_i u n f hg
        obtain ⟨ho, hcell⟩ := am_get_inv hg
        split at hstep
        · rename_i ht
          obtain ⟨rfl, rfl, hj⟩ := ht
          cases hstep
          have he : (am_ws G S)[o]? = some (am_b0 G + o, .inl (G.2.1 1, n, .inr (.inl f))) := by rw [am_ws_at ho, hcell]; rfl
          show W p l e R s m args below meth c H locs cells slots Q (F0 m pc ls (.int j :: .ref (am_ad G o) :: r.map (am_v G)))
          rw [had hg]
          rcases hop with ⟨-, h9⟩ | ⟨rfl, -⟩ | ⟨-, h9⟩ | ⟨-, h9⟩ | ⟨-, h9⟩
          · exact absurd h9 (by decide)
          · exact va_lald hx hb henv.1 hw.1 o 1 he (am_tys_at G (by decide)) (am_in_vp hj) hd (kk rfl rfl)
          all_goals exact absurd h9 (by decide)
        · cases hstep
      · rename_i u n f hg
        obtain ⟨ho, hcell⟩ := am_get_inv hg
        split at hstep
        · rename_i ht
          obtain ⟨hu, rfl, hj⟩ := ht
          cases hstep
          have he : (am_ws G S)[o]? = some (am_b0 G + o, .inl (G.2.1 u, n, .inr (.inr (.inr (.inr (fun j => (f j).map (am_ad G))))))) := by rw [am_ws_at ho, hcell]; rfl
          have kk := kk rfl rfl
          simp only [List.map_cons, am_v_rf] at kk
          show W p l e R s m args below meth c H locs cells slots Q (F0 m pc ls (.int j :: .ref (am_ad G o) :: r.map (am_v G)))
          rw [had hg]
          rcases hop with ⟨-, h9⟩ | ⟨-, h9⟩ | ⟨-, h9⟩ | ⟨-, h9⟩ | ⟨rfl, -⟩
          iterate 4 exact absurd h9 (by decide)
          rcases hu with rfl | rfl
          · exact va_aldq (C := RX1) hx hb henv.1 hw.1 o 4 he (am_tys_at G (by decide)) (am_in_vp hj) hd kk
          · exact va_aldq (C := RX7) hx hb henv.1 hw.1 o 5 he (am_tys_at G (by decide)) (am_in_vp hj) hd kk
        · cases hstep
      · cases hstep
  · cases hstep
theorem am_step_alen (C : am_ctx M G p s m args meth c k) {a b w : Nat} {cst : Int} {L : am_L} {st : List Value} {S : am_S} {q : am_F}
    (hchk : am_chk M k pc (.arraylength, 1, a, b, w, cst) = true) (hstep : am_alen (pc + 1) L st S (am_X G) = some q) (hw : am_world G S H) (hS : va_S (am_A G) s.heap H locs)
    (kk : q.2.1 = L → q.2.2.2 = S → W p l e R s m args below meth c H locs cells slots Q (F0 m q.1 ls (q.2.2.1.map (am_v G)))) :
    W p l e R s m args below meth c H locs cells slots Q (F0 m pc ls (st.map (am_v G))) := by
  obtain ⟨hx, hb, hml, hown, hgw, henv, hnm⟩ := C
  obtain ⟨hd, -, -⟩ := am_chk_sp hchk
  dsimp only at hd
  unfold am_alen at hstep
  split at hstep
  · rename_i o r
    split at hstep
    · rename_i n f hro
      cases hstep
      unfold am_ro at hro
      split at hro
      · rename_i ho
        subst ho
        have e := Option.some.inj hro
        have hX := henv.2.2.2.1
        rw [e] at hX
        exact va_slen hx hb hX.1 (Nat.lt_of_lt_of_le hX.2 henv.2.2.2.2.2.2.2.1) (fun h9 => absurd (show am_b0 G ≤ G.2.2.2.1 from h9) (Nat.not_le.mpr hX.2)) hS hd (kk rfl rfl)
      · split at hro
        · rename_i ho
          subst ho
          have e := Option.some.inj hro
          have hX := henv.2.2.2.2.1
          cases e
          exact va_tlen hx hb hX.2.1 hS rfl hd (kk rfl rfl)
        · cases hro
    · rename_i hro
      split at hstep
      · rename_i u n f hg
        obtain ⟨ho, hcell⟩ := am_get_inv hg
        split at hstep
        · rename_i hu
          cases hstep
          have had : am_ad G o = am_b0 G + o := am_ad_low (by have := hw.2; omega)
          have he : (am_ws G S)[o]? = some (am_b0 G + o, .inl (G.2.1 u, am_ra G (n, f))) := by rw [am_ws_at ho, hcell]; rfl
          have hn : (am_ra G (n, f)).1 = n := by
            unfold am_ra
            split
            · rename_i e9; exact (congrArg Prod.fst e9).symm
            · rfl
          show W p l e R s m args below meth c H locs cells slots Q (F0 m pc ls (.ref (am_ad G o) :: r.map (am_v G)))
          rw [had]
          exact va_alen (v := Int32.ofNat n) hx hb henv.1 hw.1 o u he (am_tys_at G hu) (by rw [hn]) hd (kk rfl rfl)
        · cases hstep
      · cases hstep
  · cases hstep
/-- what is stored in an array -/
theorem am_step_astore (C : am_ctx M G p s m args meth c k) {op : Instr} {t a b w : Nat} {cst : Int} {L : am_L} {st : List Value} {S : am_S} {q : am_F}
    (hop : (op = .iastore ∧ t = 0) ∨ (op = .lastore ∧ t = 1) ∨ (op = .bastore ∧ t = 2) ∨ (op = .castore ∧ t = 3) ∨ (op = .aastore ∧ t = 4))
    (hchk : am_chk M k pc (op, 1, a, b, w, cst) = true) (hstep : am_astore t (pc + 1) L st S = some q) (hw : am_world G S H) (hS : va_S (am_A G) s.heap H locs)
    (kk : ∀ H' locs', q.2.1 = L → am_world G q.2.2.2 H' → va_S (am_A G) s.heap H' locs' → W p l e R s m args below meth c H' locs' cells slots Q (F0 m q.1 ls (q.2.2.1.map (am_v G)))) :
    W p l e R s m args below meth c H locs cells slots Q (F0 m pc ls (st.map (am_v G))) := by
  obtain ⟨hx, hb, hml, hown, hgw, henv, hnm⟩ := C
  obtain ⟨hd, -, -⟩ := am_chk_sp hchk
  dsimp only at hd
  unfold am_astore at hstep
  have had : ∀ {o : Nat} {x : am_C}, am_get S o = some x → am_ad G o = am_b0 G + o := fun hg => am_ad_low (by have := hw.2; have := (am_get_inv hg).1; omega)
  split at hstep
  · rename_i x j o r
    split at hstep
    · rename_i u n f hg
      obtain ⟨ho, hcell⟩ := am_get_inv hg
      split at hstep
      · rename_i ht
        obtain ⟨rfl, ht1, ht4, hj⟩ := ht
        cases hstep
        have he : (am_ws G S)[o]? = some (am_b0 G + o, .inl (G.2.1 u, n, .inl f)) := by rw [am_ws_at ho, hcell]; rfl
        show W p l e R s m args below meth c H locs cells slots Q (F0 m pc ls (.int x :: .int j :: .ref (am_ad G o) :: r.map (am_v G)))
        rw [had hg]
        rcases hop with ⟨rfl, rfl⟩ | ⟨-, rfl⟩ | ⟨rfl, rfl⟩ | ⟨rfl, rfl⟩ | ⟨-, rfl⟩
        · refine va_iast hx hb henv.1 hw.1 (am_ws_D G S) hS o 0 he (am_tys_at G (by decide)) (am_in_vp hj) hd (fun H1 locs1 hP1 hD1 hS1 => ?_)
          refine kk H1 locs1 rfl ⟨?_, hw.2⟩ hS1
          rw [← am_ws_upd _ ho]
          exact hP1
        · exact absurd rfl ht1
        · refine va_bast hx hb henv.1 hw.1 (am_ws_D G S) hS o 2 he (am_tys_at G (by decide)) (am_in_vp hj) hd (fun H1 locs1 hP1 hD1 hS1 => ?_)
          refine kk H1 locs1 rfl ⟨?_, hw.2⟩ hS1
          rw [← am_ws_upd _ ho]
          exact hP1
        · refine va_cast hx hb henv.1 hw.1 (am_ws_D G S) hS o 3 he (am_tys_at G (by decide)) (am_in_vp hj) hd (fun H1 locs1 hP1 hD1 hS1 => ?_)
          refine kk H1 locs1 rfl ⟨?_, hw.2⟩ hS1
          rw [← am_ws_upd _ ho]
          exact hP1
        · exact absurd ht4 (by decide)
      · cases hstep
    · cases hstep
  · rename_i x j o r
    split at hstep
    · rename_i u n f hg
      obtain ⟨ho, hcell⟩ := am_get_inv hg
      split at hstep
      · rename_i ht
        obtain ⟨rfl, rfl, hj⟩ := ht
        cases hstep
        have he : (am_ws G S)[o]? = some (am_b0 G + o, .inl (G.2.1 1, n, .inr (.inl f))) := by rw [am_ws_at ho, hcell]; rfl
        show W p l e R s m args below meth c H locs cells slots Q (F0 m pc ls (.long x :: .int j :: .ref (am_ad G o) :: r.map (am_v G)))
        rw [had hg]
        rcases hop with ⟨-, h9⟩ | ⟨rfl, -⟩ | ⟨-, h9⟩ | ⟨-, h9⟩ | ⟨-, h9⟩
        · exact absurd h9 (by decide)
        · refine va_last hx hb henv.1 hw.1 (am_ws_D G S) hS o 1 he (am_tys_at G (by decide)) (am_in_vp hj) hd (fun H1 locs1 hP1 hD1 hS1 => ?_)
          refine kk H1 locs1 rfl ⟨?_, hw.2⟩ hS1
          rw [← am_ws_upd _ ho]
          exact hP1
        all_goals exact absurd h9 (by decide)
      · cases hstep
    · cases hstep
  · rename_i v j o r
    split at hstep
    · rename_i u n f ci fs hg hv
      obtain ⟨ho, hcell⟩ := am_get_inv hg
      obtain ⟨hvo, hvcell⟩ := am_get_inv hv
      split at hstep
      · rename_i ht
        obtain ⟨hu, rfl, hj⟩ := ht
        cases hstep
        have he : (am_ws G S)[o]? = some (am_b0 G + o, .inl (G.2.1 u, n, .inr (.inr (.inr (.inr (fun j => (f j).map (am_ad G))))))) := by rw [am_ws_at ho, hcell]; rfl
        have hev : (am_ws G S)[v]? = some (am_b0 G + v, .inr (ci, fs.map (am_v G))) := by rw [am_ws_at hvo, hvcell]; rfl
        have hup : ∀ i : Nat, (fun j => (va_up f i (some v) j).map (am_ad G)) = va_up (fun j => (f j).map (am_ad G)) i (some (am_b0 G + v)) := by
          intro i
          funext j
          unfold va_up
          split
          · show some (am_ad G v) = _
            rw [had hv]
          · rfl
        show W p l e R s m args below meth c H locs cells slots Q (F0 m pc ls (.ref (am_ad G v) :: .int j :: .ref (am_ad G o) :: r.map (am_v G)))
        rw [had hg, had hv]
        rcases hop with ⟨-, h9⟩ | ⟨-, h9⟩ | ⟨-, h9⟩ | ⟨-, h9⟩ | ⟨rfl, -⟩
        iterate 4 exact absurd h9 (by decide)
        rcases hu with ⟨rfl, rfl⟩ | ⟨rfl, rfl⟩
        · refine va_astq (r := (RX1, TX1, 10)) hx hb henv.1 hw.1 (am_ws_D G S) hS o 4 v 1 he (am_tys_at G (by decide)) hev rfl (am_in_vp hj) hd (fun H1 locs1 hP1 hD1 hS1 => ?_)
          refine kk H1 locs1 rfl ⟨?_, hw.2⟩ hS1
          rw [← am_ws_upd _ ho]
          simp only [am_e, am_ra, hup]
          exact hP1
        · refine va_astq (r := (RX7, TX7, 7)) hx hb henv.1 hw.1 (am_ws_D G S) hS o 5 v 7 he (am_tys_at G (by decide)) hev rfl (am_in_vp hj) hd (fun H1 locs1 hP1 hD1 hS1 => ?_)
          refine kk H1 locs1 rfl ⟨?_, hw.2⟩ hS1
          rw [← am_ws_upd _ ho]
          simp only [am_e, am_ra, hup]
          exact hP1
      · cases hstep
    · cases hstep
  · cases hstep
end AMH
end
section
/-! one step of the small machine is one of the machine: what makes cells; and all steps together -/
theorem am_astore_cs {t q0 : Nat} {L : am_L} {st : List Value} {S : am_S} {q : am_F} (h : am_astore t q0 L st S = some q) : q.2.2.2.2.2 = S.2.2 := by
  unfold am_astore at h
  split at h
  · split at h
    · split at h
      · cases h; rfl
      · cases h
    · cases h
  · split at h
    · split at h
      · cases h; rfl
      · cases h
    · cases h
  · split at h
    · split at h
      · cases h; rfl
      · cases h
    · cases h
  · cases h
theorem am_putf_cs {ci k0 q0 : Nat} {L : am_L} {st : List Value} {S : am_S} {q : am_F} (h : am_putf ci k0 q0 L st S = some q) : q.2.2.2.2.2 = S.2.2 := by
  unfold am_putf at h
  split at h
  · split at h
    · split at h
      · cases h; rfl
      · cases h
    · cases h
  · cases h
section AMN
variable {p : Program} {l : Launch} {e : Env} {R : Room} {s : State} {m : MethodId} {args : Array Value} {below : List Frame} {meth : Method} {c : Code} {H : Heap} {locs : List Loc} {cells slots : Nat} {Q : State → Prop}
variable {M : Nat → am_M} {G : am_G} {k pc : Nat} {ls : Array Slot}
theorem am_step_new (C : am_ctx M G p s m args meth c k) {x a b w : Nat} {cst : Int} {st : List Value} {S : am_S} {c0 s0 : Nat}
    (hchk : am_chk M k pc (.new x, 3, a, b, w, cst) = true) (ha : a < 11) (hn : S.1 < 1000000) (hw : am_world G S H) (hS : va_S (am_A G) s.heap H locs)
    (hc0 : c0 ≤ S.2.2.1) (hs0 : s0 ≤ S.2.2.2) (hRc : S.2.2.1 + 1 ≤ c0 + R.cells) (hRs : S.2.2.2 + am_cn a ≤ s0 + R.slots) (hsz : s.heap.size + (S.2.2.1 - c0) ≤ am_b0 G + S.1)
    (kk : ∀ H', am_world G (am_push S (.inr (a, am_blank a)) (am_cn a)) H' → va_S (am_A G) s.heap H' locs → W p l e R s m args below meth c H' locs (S.2.2.1 + 1 - c0) (S.2.2.2 + am_cn a - s0) Q (F0 m (pc + 3) ls (am_v G (.ref S.1) :: st.map (am_v G)))) :
    W p l e R s m args below meth c H locs (S.2.2.1 - c0) (S.2.2.2 - s0) Q (F0 m pc ls (st.map (am_v G))) := by
  obtain ⟨hx, hb, hml, hown, hgw, henv, hnm⟩ := C
  obtain ⟨hd, -, hc2⟩ := am_chk_sp hchk
  dsimp only at hd
  simp only [am_chk2, if_pos ha] at hc2
  split at hc2
  · rename_i cq hcq
    obtain ⟨hu, hty, -, hcn, -⟩ := am_cls hcq
    obtain ⟨hi1, hi2⟩ := am_ini hcq
    have hA : ∀ z, s.heap.size ≤ z → am_A G z := fun z hz => Nat.le_trans henv.2.2.2.2.2.2.2.1 hz
    refine va_new (ci := a) (fs := am_blank a) hx hb hgw hu (am_fty a) hty hown (hgw _ (am_word_gw hc2 rfl)) (hgw _ hi2) (hgw _ hi1) henv.1 hw.1 (am_ws_D G S) hS hA hcq (by rw [hcn]; exact am_blank_V) (by omega) (by rw [hcn]; omega) hd (fun z H1 hP1 hD1 hS1 => ?_)
    refine am_bysize fun hsize => ?_
    have hz : z = am_b0 G + S.1 := am_fresh hP1 hD1 hsize (by omega)
    subst hz
    have hv : am_v G (.ref S.1) = .ref (am_b0 G + S.1) := by show Value.ref (am_ad G S.1) = _; rw [am_ad_low hn]
    rw [hv] at kk
    refine am_eqW (by omega) (by rw [hcn]; omega) (kk H1 ⟨?_, hn⟩ hS1)
    rw [← am_ws_push]
    simp only [am_e, am_blank_v]
    exact hP1
  · cases hc2
theorem am_step_newa (C : am_ctx M G p s m args meth c k) {op : Instr} {len a b w : Nat} {cst : Int} {st : List Value} {S : am_S} {n : Int32} {c0 s0 : Nat}
    (hop : (∃ t, op = .newarray t ∧ len = 2) ∨ (∃ x, op = .anewarray x ∧ len = 3))
    (hchk : am_chk M k pc (op, len, a, b, w, cst) = true) (hn0 : ¬ n < 0) (h8 : n.toNatClampNeg * 8 ≤ 536870912) (hn : S.1 < 1000000) (hw : am_world G S H) (hS : va_S (am_A G) s.heap H locs)
    (hc0 : c0 ≤ S.2.2.1) (hs0 : s0 ≤ S.2.2.2) (hRc : S.2.2.1 + 1 ≤ c0 + R.cells) (hRs : S.2.2.2 + n.toNatClampNeg ≤ s0 + R.slots) (hsz : s.heap.size + (S.2.2.1 - c0) ≤ am_b0 G + S.1)
    (kk : ∀ H', am_world G (am_push S (.inl (a, am_zero a n.toNatClampNeg)) n.toNatClampNeg) H' → va_S (am_A G) s.heap H' locs → W p l e R s m args below meth c H' locs (S.2.2.1 + 1 - c0) (S.2.2.2 + n.toNatClampNeg - s0) Q (F0 m (pc + len) ls (am_v G (.ref S.1) :: st.map (am_v G)))) :
    W p l e R s m args below meth c H locs (S.2.2.1 - c0) (S.2.2.2 - s0) Q (F0 m pc ls (.int n :: st.map (am_v G))) := by
  obtain ⟨hx, hb, hml, hown, hgw, henv, hnm⟩ := C
  obtain ⟨hd, -, hc2⟩ := am_chk_sp hchk
  dsimp only at hd
  have hA : ∀ z, s.heap.size ≤ z → am_A G z := fun z hz => Nat.le_trans henv.2.2.2.2.2.2.2.1 hz
  have hv : am_v G (.ref S.1) = .ref (am_b0 G + S.1) := by show Value.ref (am_ad G S.1) = _; rw [am_ad_low hn]
  rw [hv] at kk
  have fin : ∀ (z : Nat) (cA : ClassId) (H1 : Heap), cA = G.2.1 a → va_P G.1 vwCl (am_ws G S ++ [(z, .inl (cA, am_ra G (am_zero a n.toNatClampNeg)))]) H1 → va_D (am_A G) (am_ws G S ++ [(z, .inl (cA, am_ra G (am_zero a n.toNatClampNeg)))]) → va_S (am_A G) s.heap H1 locs →
      W p l e R s m args below meth c H1 locs (S.2.2.1 - c0 + 1) (S.2.2.2 - s0 + n.toNatClampNeg) Q (F0 m (pc + len) ls (.ref z :: st.map (am_v G))) := by
    intro z cA H1 hcA hP1 hD1 hS1
    subst hcA
    refine am_bysize fun hsize => ?_
    have hz : z = am_b0 G + S.1 := am_fresh hP1 hD1 hsize (by omega)
    subst hz
    refine am_eqW (by omega) (by omega) (kk H1 ⟨?_, hn⟩ hS1)
    rw [← am_ws_push]
    exact hP1
  have two : ∀ {cA : ClassId} {ty : FieldType}, (∀ C9, ty ≠ .object C9) → am_ty a = ty → a < 6 → va_K G.1 vwCl (am_tys G ++ [(cA, ty)]) s → cA = G.2.1 a := by
    intro cA ty hno hta ha hK
    have h1 := (hK.2 6 (cA, ty) rfl).2
    have h2 := (henv.1.2 a _ (am_tys_at G ha)).2
    rw [hta] at h2
    cases ty with
    | object C9 => exact absurd rfl (hno C9)
    | _ => exact Option.some.inj (h1.symm.trans h2)
  have twoq : ∀ {cA : ClassId} {C9 : String}, am_ty a = .object C9 → a < 6 → va_K G.1 vwCl (am_tys G ++ [(cA, .object C9)]) s → cA = G.2.1 a := by
    intro cA C9 hta ha hK
    have h1 := (hK.2 6 (cA, .object C9) rfl).2
    have h2 := (henv.1.2 a _ (am_tys_at G ha)).2
    rw [hta] at h2
    obtain ⟨-, -, -, -, -, h3⟩ := h1
    obtain ⟨-, -, -, -, -, h4⟩ := h2
    exact Option.some.inj (h3.symm.trans h4)
  rcases hop with ⟨t, rfl, rfl⟩ | ⟨x, rfl, rfl⟩
  · simp only [am_chk2, Bool.and_eq_true, decide_eq_true_eq] at hc2
    obtain ⟨ha, hta⟩ := hc2
    rcases (show a = 0 ∨ a = 1 ∨ a = 2 ∨ a = 3 by omega) with rfl | rfl | rfl | rfl
    · refine va_newa (N' := n.toNatClampNeg) (a0 := am_zero 0 n.toNatClampNeg) hx hb (by rw [hta]; exact hgw _ am_acls.1) hta henv.1 hw.1 (am_ws_D G S) hS hA (fun _ => rfl) hn0 rfl (by show _ * 4 ≤ _; omega) (by omega) (by omega) hd (fun z cA H1 hK1 hP1 hD1 hS1 => fin z cA H1 (two (by intro C9 h9; cases h9) rfl (by decide) hK1) hP1 hD1 hS1)
    · refine va_newa (N' := n.toNatClampNeg) (a0 := am_zero 1 n.toNatClampNeg) hx hb (by rw [hta]; exact hgw _ am_acls.2.1) hta henv.1 hw.1 (am_ws_D G S) hS hA (fun _ => rfl) hn0 rfl (by show _ * 8 ≤ _; omega) (by omega) (by omega) hd (fun z cA H1 hK1 hP1 hD1 hS1 => fin z cA H1 (two (by intro C9 h9; cases h9) rfl (by decide) hK1) hP1 hD1 hS1)
    · refine va_newa (N' := n.toNatClampNeg) (a0 := am_zero 2 n.toNatClampNeg) hx hb (by rw [hta]; exact hgw _ am_acls.2.2.1) hta henv.1 hw.1 (am_ws_D G S) hS hA (fun _ => rfl) hn0 rfl (by show _ * 1 ≤ _; omega) (by omega) (by omega) hd (fun z cA H1 hK1 hP1 hD1 hS1 => fin z cA H1 (two (by intro C9 h9; cases h9) rfl (by decide) hK1) hP1 hD1 hS1)
    · refine va_newa (N' := n.toNatClampNeg) (a0 := am_zero 3 n.toNatClampNeg) hx hb (by rw [hta]; exact hgw _ am_acls.2.2.2) hta henv.1 hw.1 (am_ws_D G S) hS hA (fun _ => rfl) hn0 rfl (by show _ * 2 ≤ _; omega) (by omega) (by omega) hd (fun z cA H1 hK1 hP1 hD1 hS1 => fin z cA H1 (two (by intro C9 h9; cases h9) rfl (by decide) hK1) hP1 hD1 hS1)
  · simp only [am_chk2, Bool.or_eq_true, Bool.and_eq_true, decide_eq_true_eq] at hc2
    rcases hc2 with ⟨rfl, hwd⟩ | ⟨rfl, hwd⟩
    · exact va_newq hx hb hown (hgw _ (am_word_gw hwd rfl)) henv.2.2.2.2.2.2.1.1 henv.1 hw.1 (am_ws_D G S) hS hA hn0 rfl (by omega) (by omega) (by omega) hd (fun z cA H1 hK1 hP1 hD1 hS1 => fin z cA H1 (twoq rfl (by decide) hK1) hP1 hD1 hS1)
    · exact va_newq hx hb hown (hgw _ (am_word_gw hwd rfl)) henv.2.2.2.2.2.2.1.2 henv.1 hw.1 (am_ws_D G S) hS hA hn0 rfl (by omega) (by omega) (by omega) hd (fun z cA H1 hK1 hP1 hD1 hS1 => fin z cA H1 (twoq rfl (by decide) hK1) hP1 hD1 hS1)
set_option maxHeartbeats 4000000 in
/-- EVERY STEP -/
theorem am_step_ok (C : am_ctx M G p s m args meth c k) {i : am_I} {L : am_L} {st : List Value} {S : am_S} {q : am_F} {c0 s0 : Nat}
    (hchk : am_chk M k pc i = true) (hstep : am_step (am_X G) i pc L st S = some q) (hl : am_ls G ls (M k).2.2.1 L) (hw : am_world G S H) (hS : va_S (am_A G) s.heap H locs)
    (hc0 : c0 ≤ S.2.2.1) (hs0 : s0 ≤ S.2.2.2) (hRc : q.2.2.2.2.2.1 ≤ c0 + R.cells) (hRs : q.2.2.2.2.2.2 ≤ s0 + R.slots) (hRf : 1 ≤ R.frames) (hRl : 40 ≤ R.locals)
    (hsz : S.2.2.1 = S.1 → s.heap.size + (S.2.2.1 - c0) ≤ am_b0 G + S.1)
    (kk : ∀ H' locs' ls', am_ls G ls' (M k).2.2.1 q.2.1 → am_world G q.2.2.2 H' → va_S (am_A G) s.heap H' locs' → W p l e R s m args below meth c H' locs' (q.2.2.2.2.2.1 - c0) (q.2.2.2.2.2.2 - s0) Q (F0 m q.1 ls' (q.2.2.1.map (am_v G)))) :
    W p l e R s m args below meth c H locs (S.2.2.1 - c0) (S.2.2.2 - s0) Q (F0 m pc ls (st.map (am_v G))) := by
  cases hop : am_heapy i.1 with
  | false => exact am_step_pure C hchk hop hstep hl (fun ls' hl' e => by have k2 := kk H locs ls' hl'; rw [e] at k2; exact k2 hw hS)
  | true =>
    obtain ⟨op, len, a, b, w, cst⟩ := i
    obtain ⟨hd, hln, hc2⟩ := am_chk_sp hchk
    dsimp only at hd hln hc2 hop
    cases op <;> first | (exact absurd (show false = true from hop) (by decide)) | skip
    case iaload =>
      have hln : len = 1 := by simpa [am_sws, am_len] using hln
      subst hln
      exact am_step_aload C (Or.inl ⟨rfl, rfl⟩) hchk hstep hw hS (fun e1 e2 => by have k2 := kk H locs ls; rw [e1, e2] at k2; exact k2 hl hw hS)
    case laload =>
      have hln : len = 1 := by simpa [am_sws, am_len] using hln
      subst hln
      exact am_step_aload C (Or.inr (Or.inl ⟨rfl, rfl⟩)) hchk hstep hw hS (fun e1 e2 => by have k2 := kk H locs ls; rw [e1, e2] at k2; exact k2 hl hw hS)
    case baload =>
      have hln : len = 1 := by simpa [am_sws, am_len] using hln
      subst hln
      exact am_step_aload C (Or.inr (Or.inr (Or.inl ⟨rfl, rfl⟩))) hchk hstep hw hS (fun e1 e2 => by have k2 := kk H locs ls; rw [e1, e2] at k2; exact k2 hl hw hS)
    case caload =>
      have hln : len = 1 := by simpa [am_sws, am_len] using hln
      subst hln
      exact am_step_aload C (Or.inr (Or.inr (Or.inr (Or.inl ⟨rfl, rfl⟩)))) hchk hstep hw hS (fun e1 e2 => by have k2 := kk H locs ls; rw [e1, e2] at k2; exact k2 hl hw hS)
    case aaload =>
      have hln : len = 1 := by simpa [am_sws, am_len] using hln
      subst hln
      exact am_step_aload C (Or.inr (Or.inr (Or.inr (Or.inr ⟨rfl, rfl⟩)))) hchk hstep hw hS (fun e1 e2 => by have k2 := kk H locs ls; rw [e1, e2] at k2; exact k2 hl hw hS)
    case arraylength =>
      have hln : len = 1 := by simpa [am_sws, am_len] using hln
      subst hln
      exact am_step_alen C hchk hstep hw hS (fun e1 e2 => by have k2 := kk H locs ls; rw [e1, e2] at k2; exact k2 hl hw hS)
    case getfield x =>
      have hln : len = 3 := by simpa [am_sws, am_len] using hln
      subst hln
      exact am_step_getf C hchk hstep hw hS (fun e1 e2 => by have k2 := kk H locs ls; rw [e1, e2] at k2; exact k2 hl hw hS)
    case iastore =>
      have hln : len = 1 := by simpa [am_sws, am_len] using hln
      subst hln
      have hcs : q.2.2.2.2.2 = S.2.2 := am_astore_cs hstep
      rw [hcs] at kk
      exact am_step_astore C (Or.inl ⟨rfl, rfl⟩) hchk hstep hw hS (fun H1 locs1 e1 hw1 hS1 => by have k2 := kk H1 locs1 ls; rw [e1] at k2; exact k2 hl hw1 hS1)
    case lastore =>
      have hln : len = 1 := by simpa [am_sws, am_len] using hln
      subst hln
      have hcs : q.2.2.2.2.2 = S.2.2 := am_astore_cs hstep
      rw [hcs] at kk
      exact am_step_astore C (Or.inr (Or.inl ⟨rfl, rfl⟩)) hchk hstep hw hS (fun H1 locs1 e1 hw1 hS1 => by have k2 := kk H1 locs1 ls; rw [e1] at k2; exact k2 hl hw1 hS1)
    case bastore =>
      have hln : len = 1 := by simpa [am_sws, am_len] using hln
      subst hln
      have hcs : q.2.2.2.2.2 = S.2.2 := am_astore_cs hstep
      rw [hcs] at kk
      exact am_step_astore C (Or.inr (Or.inr (Or.inl ⟨rfl, rfl⟩))) hchk hstep hw hS (fun H1 locs1 e1 hw1 hS1 => by have k2 := kk H1 locs1 ls; rw [e1] at k2; exact k2 hl hw1 hS1)
    case castore =>
      have hln : len = 1 := by simpa [am_sws, am_len] using hln
      subst hln
      have hcs : q.2.2.2.2.2 = S.2.2 := am_astore_cs hstep
      rw [hcs] at kk
      exact am_step_astore C (Or.inr (Or.inr (Or.inr (Or.inl ⟨rfl, rfl⟩)))) hchk hstep hw hS (fun H1 locs1 e1 hw1 hS1 => by have k2 := kk H1 locs1 ls; rw [e1] at k2; exact k2 hl hw1 hS1)
    case aastore =>
      have hln : len = 1 := by simpa [am_sws, am_len] using hln
      subst hln
      have hcs : q.2.2.2.2.2 = S.2.2 := am_astore_cs hstep
      rw [hcs] at kk
      exact am_step_astore C (Or.inr (Or.inr (Or.inr (Or.inr ⟨rfl, rfl⟩)))) hchk hstep hw hS (fun H1 locs1 e1 hw1 hS1 => by have k2 := kk H1 locs1 ls; rw [e1] at k2; exact k2 hl hw1 hS1)
    case putfield x =>
      have hln : len = 3 := by simpa [am_sws, am_len] using hln
      subst hln
      have hcs : q.2.2.2.2.2 = S.2.2 := am_putf_cs hstep
      rw [hcs] at kk
      exact am_step_putf C hchk hstep hw hS (fun H1 locs1 e1 hw1 hS1 => by have k2 := kk H1 locs1 ls; rw [e1] at k2; exact k2 hl hw1 hS1)
    case getstatic x =>
      have hln : len = 3 := by simpa [am_sws, am_len] using hln
      subst hln
      cases hstep
      obtain ⟨hx, hb, hml, hown, hgw, henv, hnm⟩ := C
      have hv : am_v G (.ref 1000001) = .ref G.2.2.2.2.1 := rfl
      have k2 := kk H locs ls hl hw hS
      simp only [List.map_cons, hv] at k2
      exact va_gets hx hb henv.2.2.2.2.1.1 hS hown (hgw _ (am_word_gw hc2 rfl)) (fun _ h9 => h9) hd k2
    case new x =>
      have hln : len = 3 := by simpa [am_sws, am_len] using hln
      subst hln
      simp only [am_step] at hstep
      split at hstep
      · rename_i hcond
        cases hstep
        exact am_step_new C hchk hcond.1 hcond.2.2 hw hS hc0 hs0 hRc hRs (hsz hcond.2.1) (fun H1 hw1 hS1 => kk H1 locs ls hl hw1 hS1)
      · cases hstep
    case newarray t =>
      have hln : len = 2 := by simpa [am_sws, am_len] using hln
      subst hln
      simp only [am_step, am_newa] at hstep
      split at hstep
      · rename_i n r
        split at hstep
        · rename_i hcond
          cases hstep
          exact am_step_newa C (Or.inl ⟨t, rfl, rfl⟩) hchk hcond.1 hcond.2.1 hcond.2.2.2.1 hw hS hc0 hs0 hRc hRs (hsz hcond.2.2.1) (fun H1 hw1 hS1 => kk H1 locs ls hl hw1 hS1)
        · cases hstep
      · cases hstep
    case anewarray x =>
      have hln : len = 3 := by simpa [am_sws, am_len] using hln
      subst hln
      simp only [am_step, am_newa] at hstep
      split at hstep
      · rename_i n r
        split at hstep
        · rename_i hcond
          cases hstep
          exact am_step_newa C (Or.inr ⟨x, rfl, rfl⟩) hchk hcond.1 hcond.2.1 hcond.2.2.2.1 hw hS hc0 hs0 hRc hRs (hsz hcond.2.2.1) (fun H1 hw1 hS1 => kk H1 locs ls hl hw1 hS1)
        · cases hstep
      · cases hstep
    case invokespecial x =>
      have hln : len = 3 := by simpa [am_sws, am_len] using hln
      subst hln
      simp only [am_step] at hstep
      split at hstep
      · rename_i ha
        subst ha
        split at hstep
        · rename_i o r
          split at hstep
          · rename_i hr8
            cases hstep
            obtain ⟨hx, hb, hml, hown, hgw, henv, hnm⟩ := C
            simp only [am_chk2, if_true] at hc2
            refine W.objInit hx hb hown (hgw _ (am_word_gw hc2 rfl)) (hgw _ am_oi1) (hgw _ am_oi2) rfl (by rw [hml]; exact hl.1) rfl hd hRf ?_ (kk H locs ls hl hw hS)
            show 2 * 0 + ((r.map (am_v G)).map fun v => v.category).sum + 12 ≤ R.locals
            rw [am_v_cats]
            omega
          · cases hstep
        · cases hstep
      · cases hstep
end AMN
end
section
/-! a thrown object comes to its handler: the rows of the table one after the other, each naming a class that may still have to be looked up -/
section AMT
variable {e : Env} {f : JFrame} {a : Addr} {cell : Cell}
/-- one row that covers the place: it takes the object or it does not; the tables know its class then -/
theorem am_ct1 {s : State} {x : ExceptionTableEntry} {t : List ExceptionTableEntry} {c : ClassId} (hx : covers x f.pc = true) (h0 : x.catchType ≠ 0) (hl : s.vm.ClassLinks e.platform f.method.cls x.catchType c)
    (hcell : s.heap[a]? = some cell) (hobj : ∀ k, cell.vm ≠ .statics k) (hk : ∃ k, s.vm.classes[cell.cls]? = some k) (hc : ∃ k, s.vm.classes[c]? = some k)
    (Q : Handler → Pre) (E : CtlPost) (d : Bool) (acts : List Action) :
    wp (findHandler.go f a (x :: t)) Q E e d acts s ↔ (if s.vm.assignable cell.cls c = true then Q (.found x.handlerPc) d acts (s.setVm (s.vm.noted f.method.cls x.catchType (.cls c))) else wp (findHandler.go f a t) Q E e d acts (s.setVm (s.vm.noted f.method.cls x.catchType (.cls c)))) := by
  simp only [covers] at hx
  obtain ⟨ha, ht⟩ := (resolveClass_links e.toSetting hl).op (op := VmOp.resolveClass f.method.cls x.catchType) rfl
  have hal : s.vm.Alike (s.vm.noted f.method.cls x.catchType (.cls c)) := (Vm.Alike.refl s.vm).noted _ _ _
  obtain ⟨k1, hk1⟩ := hk
  obtain ⟨k2, hk2⟩ := hc
  obtain ⟨k1', hk1', -⟩ := hal.2.2 _ _ hk1
  obtain ⟨k2', hk2', -⟩ := hal.2.2 _ _ hk2
  have hsame := hal.assignable cell.cls c
  cases hf : s.vm.assignable cell.cls c with
  | true =>
    rw [hf] at hsame
    simp [findHandler.go, hx, h0, ha, ht, hcell, hobj, hk1', hk2', hsame, VmOp.dirties, VmOp.acts]
  | false =>
    rw [hf] at hsame
    simp [findHandler.go, hx, h0, ha, ht, hcell, hobj, hk1', hk2', hsame, VmOp.dirties, VmOp.acts]
/-- a row of the table: not over the place, or over it and naming c -/
def am_row (pl : Platform) (s : State) (d : ClassId) (pc : Nat) (thrown : ClassId) (y : ExceptionTableEntry) (takes : Bool) : Prop :=
  (takes = false ∧ covers y pc = false) ∨ (covers y pc = true ∧ y.catchType ≠ 0 ∧ ∃ c, s.vm.ClassLinks pl d y.catchType c ∧ s.vm.assignable thrown c = takes)
theorem am_ct {s : State} (hobj : ∀ k, cell.vm ≠ .statics k) (hk0 : ∃ k, s.vm.classes[cell.cls]? = some k) (x : ExceptionTableEntry) (rest : List ExceptionTableEntry) (hend : am_row e.platform s f.method.cls f.pc cell.cls x true) :
    ∀ (pre : List ExceptionTableEntry) (S : State), s.WarmedH S.vm → S.heap[a]? = some cell → (∀ y ∈ pre, am_row e.platform s f.method.cls f.pc cell.cls y false) →
      ∃ vm', s.WarmedH vm' ∧ ∀ (Q : Handler → Pre) (E : CtlPost) (d : Bool) (acts : List Action), wp (findHandler.go f a (pre ++ x :: rest)) Q E e d acts S ↔ Q (.found x.handlerPc) d acts (S.setVm vm') := by
  obtain ⟨k0, hk0⟩ := hk0
  have one : ∀ (y : ExceptionTableEntry) (t : List ExceptionTableEntry) (b : Bool) (S : State), s.WarmedH S.vm → S.heap[a]? = some cell → covers y f.pc = true → am_row e.platform s f.method.cls f.pc cell.cls y b →
      ∃ vm', s.WarmedH vm' ∧ ∀ (Q : Handler → Pre) (E : CtlPost) (d : Bool) (acts : List Action), wp (findHandler.go f a (y :: t)) Q E e d acts S ↔ (if b = true then Q (.found y.handlerPc) d acts (S.setVm vm') else wp (findHandler.go f a t) Q E e d acts (S.setVm vm')) := by
    intro y t b S hW hcell hcov hr
    rcases hr with ⟨-, h⟩ | ⟨-, h0, c, hl, hfit⟩
    · rw [h] at hcov; cases hcov
    · obtain ⟨k0', hk0', -⟩ := hW.alike.2.2 _ _ hk0
      obtain ⟨dk, _, _, kt, hd, _, _, _, _, hkt, _, hopen⟩ := hl.here
      obtain ⟨kt', hkt', -⟩ := hW.alike.2.2 _ _ hkt
      refine ⟨_, hW.noted hd hopen (State.rightAt_cls hl), fun Q E d acts => ?_⟩
      rw [am_ct1 hcov h0 (hW.classLinks hl) hcell hobj ⟨k0', hk0'⟩ ⟨kt', hkt'⟩, hW.alike.assignable, hfit]
  intro pre
  induction pre with
  | nil =>
    intro S hW hcell _
    have hcov : covers x f.pc = true := by
      rcases hend with ⟨h, -⟩ | ⟨h, -⟩
      · cases h
      · exact h
    obtain ⟨vm', hW', hq⟩ := one x rest true S hW hcell hcov hend
    exact ⟨vm', hW', fun Q E d acts => by rw [List.nil_append, hq]; simp⟩
  | cons y ys ih =>
    intro S hW hcell hpass
    have hy := hpass y List.mem_cons_self
    have hys : ∀ z ∈ ys, am_row e.platform s f.method.cls f.pc cell.cls z false := fun z hz => hpass z (List.mem_cons_of_mem _ hz)
    cases hcov : covers y f.pc with
    | true =>
      obtain ⟨vm1, hW1, hq1⟩ := one y (ys ++ x :: rest) false S hW hcell hcov hy
      obtain ⟨vm2, hW2, hq2⟩ := ih (S.setVm vm1) hW1 hcell hys
      exact ⟨vm2, hW2, fun Q E d acts => by
        rw [List.cons_append, hq1, if_neg (by decide), hq2]
        rfl⟩
    | false =>
      obtain ⟨vm2, hW2, hq2⟩ := ih S hW hcell hys
      exact ⟨vm2, hW2, fun Q E d acts => by rw [List.cons_append, W.findHandler_go_skip hcov]; exact hq2 Q E d acts⟩
end AMT
section AMU
variable {p : Program} {l : Launch} {e : Env} {R : Room} {s : State} {m : MethodId} {args : Array Value} {below : List Frame} {meth : Method} {c : Code} {H : Heap} {locs : List Loc} {cells slots : Nat} {Q : State → Prop} {pc : Nat} {ls : Array Slot} {rest : List Value}
theorem am_caught {T : State} (X : Stand p l e R s m args below meth c T locs cells slots) {a : Addr} {g : JFrame} (hg : g.method = m) {cell : Cell} (hcell : T.heap[a]? = some cell) (hobj : ∀ k, cell.vm ≠ .statics k) (hk0 : ∃ k, s.vm.classes[cell.cls]? = some k)
    (pre : List ExceptionTableEntry) (x : ExceptionTableEntry) (suf : List ExceptionTableEntry) (hsplit : c.exceptionTable.toList = pre ++ x :: suf)
    (hpass : ∀ y ∈ pre, am_row e.platform s m.cls g.pc cell.cls y false) (hend : am_row e.platform s m.cls g.pc cell.cls x true) :
    ∃ vm', Stand p l e R s m args below meth c (T.setVm vm') locs cells slots ∧ ∀ target, Steps p.tables e below ((T.setVm vm').setTop { g with pc := x.handlerPc, stack := [.ref a] }) target → Steps p.tables e below ((T.setTop g).pushFrame (.throwing a)) target := by
  subst hg
  have hA := X.here
  obtain ⟨vm', hW', hq⟩ := am_ct (e := e) (f := g) (a := a) (cell := cell) hobj hk0 x suf hend pre ((T.setTop g).pushFrame (.throwing a)) X.warmed hcell hpass
  refine ⟨vm', X.noted hW', fun target hrest => ?_⟩
  have hm : ((T.setTop g).pushFrame (.throwing a)).vm.method? g.method = some meth := X.method'
  have hfind : ∀ (Q : Handler → Pre) (E : CtlPost) (d : Bool) (acts : List Action), wp (findHandler g a) Q E e d acts ((T.setTop g).pushFrame (.throwing a)) ↔ Q (.found x.handlerPc) d acts (((T.setTop g).pushFrame (.throwing a)).setVm vm') := by
    intro Q E d acts
    rw [W.findHandler_eq hm X.code, hsplit]
    exact hq Q E d acts
  obtain ⟨hgo, hw⟩ := hA.throwing a
  refine Steps.head hgo hw ?_
  have hstep : (stepThrowing e ((T.setTop g).pushFrame (.throwing a)) a (.java g :: T.frames.tail)).Is ((((T.setTop g).pushFrame (.throwing a)).setVm vm').setFrames (.java { g with pc := x.handlerPc, stack := [.ref a] } :: T.frames.tail)) [] := by
    simp only [stepThrowing, searchFrame, vmDo]
    generalize hr : Sem.go _ e false [] ((T.setTop g).pushFrame (.throwing a)) = res
    obtain ⟨as, rfl, ha⟩ := Sem.eq_ok_of hr (a := Handler.found x.handlerPc) (s' := ((T.setTop g).pushFrame (.throwing a)).setVm vm') (acts' := []) (by simp [hfind _ _ _ _])
    exact ⟨rfl, ha⟩
  rw [stepThread_throwing (frames_entered hA.top _), hstep.1]
  obtain ⟨g₀, hg0⟩ := Option.isSome_iff_exists.mp hA.top
  obtain ⟨r, hr⟩ := State.topJava?_eq_some.mp hg0
  have hr' : (T.setVm vm').frames = .java g₀ :: r := hr
  have e9 : (((T.setTop g).pushFrame (.throwing a)).setVm vm').setFrames (.java { g with pc := x.handlerPc, stack := [.ref a] } :: T.frames.tail) = (T.setVm vm').setTop { g with pc := x.handlerPc, stack := [.ref a] } := by
    rw [State.setTop_of_frames _ hr', hr, List.tail_cons, State.pushFrame, State.setTop_of_frames _ hr]
    have h1 : ∀ (u : State) (F K : List Frame), ((u.setFrames F).setVm vm').setFrames K = (u.setVm vm').setFrames K := by
      intro u F K
      show ((u.setVm vm').setFrames F).setFrames K = _
      rw [State.setFrames_setFrames]
    rw [h1, h1]
  rw [e9]
  exact hrest
end AMU
end
section
/-! contracts out of the small machine, and calls -/
/-- the environment stays as the tables warm and the heap grows -/
theorem am_nw_move {s U : State} (hW : s.WarmedH U.vm) {w : Cond} (hw : w ∈ am_nw) (h : va_Nw w s) : va_Nw w U := by
  have hk : am_nwK w = true := (List.mem_filter.mp hw).2
  cases w <;> first | (exact absurd (show false = true from hk) (by decide)) | skip
  · exact va_Nw.warmM hW h
  · exact va_Nw.warmD hW h
  · exact va_Nw.warmC hW h
theorem am_env_move {G : am_G} {s U : State} (h : am_env G s) (hW : s.WarmedH U.vm) (hq : ∀ q : Nat, q < s.heap.size → ¬ am_A G q → U.heap[q]? = s.heap[q]?) (hz : s.heap.size ≤ U.heap.size) : am_env G U := by
  obtain ⟨hK, hU, hN, ⟨hX, hXb⟩, ⟨hZ, hZX, hZb⟩, hnw, ⟨hO1, hO7⟩, hb, hnc⟩ := h
  have hal := hW.alike
  have low : ∀ b : Nat, b < am_b0 G → U.heap[b]? = s.heap[b]? := fun b hlt => hq b (Nat.lt_of_lt_of_le hlt hb) (fun h9 => absurd (show am_b0 G ≤ b from h9) (Nat.not_le.mpr hlt))
  exact ⟨va_K.moved hal hK, vx_Zq.moved hal (hU.kept hq), vx_Zq.moved hal (hN.kept hq), ⟨va_X.moved hal (hX.kept (low _ hXb)), hXb⟩, ⟨va_Z.moved hal (hZ.kept hq), va_T.moved hal (hZX.kept hq), hZb⟩,
    fun w hw => am_nw_move hW hw (hnw w hw), ⟨va_AO.moved hal hO1, va_AO.moved hal hO7⟩, Nat.le_trans hb hz, fun a b ha hb9 hab => va_Nc.moved hal (hnc a b ha hb9 hab)⟩
def am_Pc (G : am_G) (as : List Value) (S : am_S) : Array Value → State → Prop := va_Pc (as.map (am_v G)) (fun U => am_world G S U.heap ∧ am_env G U ∧ (S.2.2.1 = S.1 → U.heap.size ≤ am_b0 G + S.1) ∧ S.1 ≤ S.2.2.1)
def am_Qc (G : am_G) (r : am_R) : Array Value → State → Outcome → State → Prop := fun _ st o t => (∃ v : Option Value, r.1 = .inl v ∧ o = .returned (v.map (am_v G)) ∧ am_world G r.2 t.heap) ∧ va_F (am_A G) st t
def am_XC (G : am_G) (r : am_R) : String → State → State → Prop := fun E st t => r.1 = .inr E ∧ am_world G r.2 t.heap ∧ va_F (am_A G) st t
theorem am_blind (G : am_G) (as : List Value) (S : am_S) : FrameBlind (am_Pc G as S) := by
  intro a U g mk h
  obtain ⟨h1, h2, h3, h4, h5⟩ := h
  exact ⟨h1, h2, am_env_move h3 (State.WarmedH.refl U) (fun _ _ _ => rfl) (Nat.le_refl _), h4, h5⟩
def am_wsM (M : Nat → am_M) (k : Nat) : List Cond := am_cw M k :: am_gw
def am_room (d : Nat) (S : am_S) (r : am_R) : Room := { frames := 16 + d, cells := r.2.2.2.1 - S.2.2.1, slots := r.2.2.2.2 - S.2.2.2, locals := 400 + 60 * d }
section AMC
variable {p : Program} {l : Launch} {e : Env} {R : Room} {s : State} {m : MethodId} {args : Array Value} {below : List Frame} {meth : Method} {c : Code} {H : Heap} {locs : List Loc} {cells slots mc ms : Nat} {Q : State → Prop}
variable {M : Nat → am_M} {kd : Nat → Nat} {G : am_G} {k pc : Nat} {ls : Array Slot} {g : JFrame} {rest : List Value}
theorem am_gw_at {U : State} {a' : Array Value} (hgw : ∀ w ∈ am_gw, w.before args s = true) (hW : s.WarmedH U.vm) {w : Cond} (hw : w ∈ am_gw) : w.before a' U = true :=
  word_at hW (good_of_word (List.mem_filter.mp hw).2) (hgw w hw)
theorem am_back {Pc : Array Value → State → Prop} {Qc : Array Value → State → Outcome → State → Prop} {XC : String → State → State → Prop} {free : Addr → Prop} {rm : Room} (hgw : ∀ w ∈ am_gw, w.before args s = true) (hm : am_mok M kd k)
    (hM : vx_Met l (M k).1 (am_wsM M k) rm Pc Qc XC mc ms free) (hbl : FrameBlind Pc) (hrc : rm.cells = mc) (hrs : rm.slots = ms) (hfr : rm.frames + 1 ≤ R.frames) (hlo : 8 + ((M k).2.2.1 + 11) + rm.locals ≤ R.locals) :
    vx_Back l R p e below s args (M k).1 3 8 (PreOf R mc ms Pc) (PostOf Qc mc ms free) (vx_Post XC mc ms free) := by
  have hws : ∀ w ∈ am_wsM M k, ∀ a' U, s.WarmedH U.vm → w.before a' U = true := by
    intro w hw a' U hW
    rcases List.mem_cons.mp hw with rfl | hw
    · exact am_gw_at hgw hW hm.1
    · exact am_gw_at hgw hW hw
  have hini : ∀ a' U, s.WarmedH U.vm → (Cond.initialized (M k).1.cls).before a' U = true := fun a' U hW => am_gw_at hgw hW hm.2.1
  by_cases hh : (M k).2.2.2.2 = []
  · exact vx_back (bytes := (M k).2.1) (maxL := (M k).2.2.1) (ret := (M k).2.2.2.1) hM hbl hrc hrs hfr hlo hws (by unfold am_wsM am_cw; rw [if_pos hh]; exact List.mem_cons_self) hini
  · exact vx_backW (hh := am_hh M k) (bytes := (M k).2.1) (maxL := (M k).2.2.1) (ret := (M k).2.2.2.1) hM hbl hrc hrs hfr hlo hws (by unfold am_wsM am_cw; rw [if_neg hh]; exact List.mem_cons_self) hini
/-- from a call's own step to what the callee gives -/
theorem am_run_of {y : MethodName} {ig : Instr} {a : Array Value} {Pc : Array Value → State → Prop} {Qc : Array Value → State → Outcome → State → Prop} {XC : String → State → State → Prop} {free : Addr → Prop}
    (hK : vx_Back l R p e below s args y 3 8 (PreOf R mc ms Pc) (PostOf Qc mc ms free) (vx_Post XC mc ms free))
    (hinv : ∀ T : State, T.heap = H → Stand p l e R s m args below meth c T locs cells slots → ∃ (vm₁ : Vm) (mk : MethodId), Stand p l e R s m args below meth c (T.setVm vm₁) locs cells slots ∧ (T.setVm vm₁).methodNamed? y = some mk ∧
      ∀ target, (∀ acts, Steps p.tables e below (doInvoke e ((T.setVm vm₁).setTop { g with stack := rest }) acts mk a).1 target) → Steps p.tables e below (T.setTop g) target)
    (hpre : ∀ U : State, U.heap = H → s.WarmedH U.vm → Pc a U) (hg : g.method = m) (hsize : g.locals.size = c.maxLocals) (hW8 : 2 * g.monitorRoom + (rest.map fun v => v.category).sum ≤ 8) (hdg : decode c.code g.pc = .ok (ig, 3)) (hf : cells + mc ≤ R.cells ∧ slots + ms ≤ R.slots) :
    vx_Run p l e R s m args below meth c H locs cells slots mc ms g rest (Qc a) XC free := by
  intro T hT X
  obtain ⟨vm₁, mk, X₁, hnamed, hstep⟩ := hinv T hT X
  have hW₁ : s.WarmedH vm₁ := X₁.warmed
  rcases hK m meth c ⟨T.setVm vm₁, locs, cells, slots⟩ { g with stack := rest } ig mk a X₁ hg hsize hdg hW8 hnamed ⟨hf.1, hf.2, hpre (T.setVm vm₁) hT hW₁⟩ with ⟨v, ⟨U', l2, c2, s2⟩, X', ⟨g', mk', t, L, e1, e2, hq, h1, hL, h2, h3⟩, hs⟩ | ⟨q, ⟨U', l2, c2, s2⟩, X', ⟨g', mk', t, L, E, ce, e1, e2, hq, hce, hcv, hcl, h1, hL, h2, h3⟩, hs⟩
  · dsimp only [Pt.U, Pt.locs, Pt.cells, Pt.slots] at X' e1 e2 h1 h2 h3 hs
    subst h1; subst h2; subst h3
    exact Or.inl ⟨v, (T.setVm vm₁).calling g' mk' a, t, U', L, hT, X', hL, e1, e2, hq, fun target h => hstep target fun acts => by rw [doInvoke_state]; exact hs.trans h⟩
  · dsimp only [Pt.U, Pt.locs, Pt.cells, Pt.slots] at X' e1 e2 h1 h2 h3 hs hcl
    subst h1; subst h2; subst h3
    exact Or.inr ⟨q, (T.setVm vm₁).calling g' mk' a, t, U', L, E, ce, hT, X', hL, e1, e2, hq, hce, hcv, vx_cls hW₁ hcl, hstep _ fun acts => by rw [doInvoke_state]; exact hs⟩
/-- .. and on from there -/
theorem am_after {r1 : am_R} {a : Array Value} (hr : vx_Run p l e R s m args below meth c H locs cells slots mc ms g rest (am_Qc G r1 a) (am_XC G r1) (am_A G)) (hS : va_S (am_A G) s.heap H locs)
    (kret : ∀ (v : Option Value) (H1 : Heap) (locs1 : List Loc), r1.1 = .inl v → am_world G r1.2 H1 → va_S (am_A G) s.heap H1 locs1 → W p l e R s m args below meth c H1 locs1 (cells + mc) (slots + ms) Q { g with pc := g.pc + 3, stack := (v.map (am_v G)).toList ++ rest })
    (kthr : ∀ (E : String) (ce : Cell) (q9 : Addr) (H1 : Heap) (locs1 : List Loc), r1.1 = .inr E → am_world G r1.2 H1 → va_S (am_A G) s.heap H1 locs1 → H1[q9]? = some ce → ce.vm = .none → s.vm.findClass E = some ce.cls → vx_W p l e R s m args below meth c H1 locs1 (cells + mc) (slots + ms) Q { g with stack := rest } q9) :
    W p l e R s m args below meth c H locs cells slots Q g := by
  intro T hT X
  rcases hr T hT X with ⟨v, st₀, t, T', L, h0, X', hL, e1, e2, ⟨⟨w, hw, hv, hwd⟩, hF⟩, st⟩ | ⟨q, st₀, t, T', L, E, ce, h0, X', hL, e1, e2, ⟨hE, hwd, hF⟩, hce, hcv, hcl, st⟩
  · cases hv
    obtain ⟨k1, k2, k3⟩ := vx_keep h0 e1 hS (fun _ _ h => h) (fun _ h => h) hL hF
    obtain ⟨t2, a1, b1⟩ := kret w T'.heap (locs ++ L) hw (by rw [e1]; exact hwd) k3 T' rfl X'
    exact ⟨t2, st t2 a1, b1⟩
  · obtain ⟨k1, k2, k3⟩ := vx_keep h0 e1 hS (fun _ _ h => h) (fun _ h => h) hL hF
    obtain ⟨t2, a1, b1⟩ := kthr E ce q T'.heap (locs ++ L) hE (by rw [e1]; exact hwd) k3 (by rw [e1]; exact hce) hcv hcl T' rfl X'
    exact ⟨t2, st.trans a1, b1⟩
end AMC
end
section
/-! the five ways of a call, up to the callee's entry -/
/-- the kind of a callee fits the call -/
def am_kchk (kd : Nat → Nat) (i : am_I) : Prop := (∀ x, i.1 = .invokevirtual x → kd i.2.2.1 = 0) ∧ (∀ x, i.1 = .invokestatic x → kd i.2.2.1 = 1) ∧ (∀ x, i.1 = .invokespecial x → i.2.2.1 ≠ 99999 → kd i.2.2.1 = 2)
theorem am_args_inv {i : am_I} {st as rest : List Value} (h : am_args i st = some (as, rest)) : st = as.reverse ++ rest ∧ as.length = i.2.2.2.1 ∧ (rest.map fun v => v.category).sum ≤ 8 := by
  obtain ⟨op, len, a, b, w, cst⟩ := i
  unfold am_args at h
  dsimp only at h
  split at h
  · rename_i hc
    cases h
    refine ⟨by rw [List.reverse_reverse, List.take_append_drop], ?_, hc.2⟩
    rw [List.length_reverse, List.length_take]
    exact Nat.min_eq_left hc.1
  · cases h
section AMI
variable {p : Program} {l : Launch} {e : Env} {R : Room} {s : State} {m : MethodId} {args : Array Value} {below : List Frame} {meth : Method} {c : Code} {H : Heap} {locs : List Loc} {cells slots mc ms : Nat} {Q : State → Prop}
variable {M : Nat → am_M} {kd : Nat → Nat} {G : am_G} {k pc : Nat} {ls : Array Slot}
theorem am_cw_code {j : Nat} (hgw : ∀ w ∈ am_gw, w.before args s = true) (hm : am_mok M kd j) (hh : (M j).2.2.2.2 = []) : (Cond.code (M j).1 (M j).2.1 (M j).2.2.1 (M j).2.2.2.1).before args s = true := by
  have h := hgw _ hm.1
  unfold am_cw at h
  rw [if_pos hh] at h
  exact h
set_option maxHeartbeats 1000000 in
theorem am_hinv (C : am_ctx M G p s m args meth c k) {op : Instr} {len a b w : Nat} {cst : Int} (hm : am_mok M kd a) (hk : am_kchk kd (op, len, a, b, w, cst)) (hcall : am_isCall op = true) (hne : a ≠ 99999) (hchk : am_chk M k pc (op, len, a, b, w, cst) = true)
    {st as rest : List Value} {S : am_S} (hargs : am_args (op, len, a, b, w, cst) st = some (as, rest)) (hrec : am_recv M (op, len, a, b, w, cst) as S = true) (hw : am_world G S H) (T : State) (hT : T.heap = H) (X : Stand p l e R s m args below meth c T locs cells slots) :
    ∃ (vm₁ : Vm) (mk : MethodId), Stand p l e R s m args below meth c (T.setVm vm₁) locs cells slots ∧ (T.setVm vm₁).methodNamed? (M a).1 = some mk ∧
      ∀ target, (∀ acts, Steps p.tables e below (doInvoke e ((T.setVm vm₁).setTop { F0 m pc ls (st.map (am_v G)) with stack := rest.map (am_v G) }) acts mk (as.map (am_v G)).toArray).1 target) → Steps p.tables e below (T.setTop (F0 m pc ls (st.map (am_v G)))) target := by
  obtain ⟨hx, hb, hml, hown, hgw, henv, hnm⟩ := C
  obtain ⟨hd, hln, hc2⟩ := am_chk_sp hchk
  obtain ⟨hst, hlen, -⟩ := am_args_inv hargs
  dsimp only at hd hln hc2 hlen
  have hpl : e.platform.magicAccessors = ({} : Platform).magicAccessors := by rw [X.admits.platform]
  obtain ⟨hcw, hini, hmx, hpn, hy, hk0, hk1, hk2⟩ := id hm
  have hdg : ∀ {ig : Instr}, op = ig → len = 3 → decode c.code (F0 m pc ls (st.map (am_v G))).pc = .ok (ig, 3) := fun h1 h2 => by rw [hb]; subst h1; subst h2; exact hd
  cases op <;> first | (exact absurd (show false = true from hcall) (by decide)) | skip
  case invokevirtual x =>
    have hl3 : len = 3 := by simpa [am_sws, am_len] using hln
    obtain ⟨hinst, hsel, hh⟩ := hk0 (hk.1 x rfl)
    simp only [am_recv] at hrec
    cases as with
    | nil => cases hrec
    | cons v0 As =>
      cases v0 with
      | ref o =>
        dsimp only at hrec
        split at hrec
        · rename_i ci fs hg
          obtain ⟨ho, hcell⟩ := am_get_inv hg
          have hcn := of_decide_eq_true hrec
          cases hcq : vwCl[ci]? with
          | none => rw [hcq] at hcn; cases hcn
          | some cq =>
            rw [hcq] at hcn
            have hcn : cq.1 = (M a).1.cls := Option.some.inj hcn
            have he : (am_ws G S)[o]? = some (am_b0 G + o, .inr (ci, fs.map (am_v G))) := by rw [am_ws_at ho, hcell]; rfl
            obtain ⟨cellB, hcB, hoB, hclB⟩ := va_recv henv.1 hw.1 hcq he
            have had : am_ad G o = am_b0 G + o := am_ad_low (by have := hw.2; omega)
            rw [hcn] at hclB
            obtain ⟨mk, methM, hnamed, hmethM, hstM, habM⟩ := Cond.instanceMethod_spec (hgw _ hinst)
            obtain ⟨methM', cM, hmethM', -, -, -, -, -, -, hsigM⟩ := Cond.code_spec hnamed (am_cw_code hgw hm hh)
            cases hmethM.symm.trans hmethM'
            obtain ⟨c2, r2, m2, q1, q2, q3, q4, kP, hkP, hkPi⟩ := Cond.selects_spec (hgw _ hsel)
            cases hclB.symm.trans q1
            cases (State.methodFound?_of_named hnamed hy).symm.trans q2
            cases hnamed.symm.trans q3
            have hselP : selectMethod e.platform s.vm cellB.cls mk = .method mk := by rw [Launch.admits_selectMethod X.admits]; exact q4
            have hstack : (F0 m pc ls (st.map (am_v G))).stack = (As.map (am_v G)).reverse ++ .ref (am_b0 G + o) :: rest.map (am_v G) := by
              show st.map (am_v G) = _
              rw [hst, ← had]
              simp [am_v]
            simp only [am_chk2, Bool.and_eq_true, Bool.or_eq_true, decide_eq_true_eq] at hc2
            have hln9 : (As.map (am_v G)).length = methM.sig.parameters.length := by
              have h9 := hc2.1.1
              rw [hsigM] at h9
              have h10 : methM.sig.parameters.length + 1 = b := Option.some.inj h9
              rw [List.length_map]
              simp only [List.length_cons] at hlen
              omega
            have hav : ((Value.ref o :: As).map (am_v G)).toArray = (Value.ref (am_b0 G + o) :: As.map (am_v G)).toArray := by
              rw [← had]; rfl
            rw [hav]
            rcases hc2.2 with hl1 | hl1
            · obtain ⟨vm₁, X₁, hstep₁⟩ := X.invokevirtual hx hown (hgw _ (am_word_gw hl1 rfl)) hnamed hmethM hstM hkP hkPi hy (a := am_b0 G + o) (cell := cellB) (by rw [hT]; exact hcB)
                (fun z h => by rw [h] at hoB; cases hoB) hselP hmethM habM hkP hkPi (g := F0 m pc ls (st.map (am_v G))) rfl (argsL := As.map (am_v G)) (rest := rest.map (am_v G)) hln9 hstack (hdg rfl hl3)
              exact ⟨vm₁, mk, X₁, X₁.named hnamed, hstep₁⟩
            · have hnw := va_Nw.use (A := args) rfl (henv.2.2.2.2.2.1 _ (List.mem_filter.mpr ⟨am_word_in hl1, rfl⟩))
              obtain ⟨vm₁, X₁, hstep₁⟩ := X.invokevirtualNest hx hown hnw hnamed hmethM hstM hkP hkPi hy (a := am_b0 G + o) (cell := cellB) (by rw [hT]; exact hcB)
                (fun z h => by rw [h] at hoB; cases hoB) hselP hmethM habM hkP hkPi (g := F0 m pc ls (st.map (am_v G))) rfl (argsL := As.map (am_v G)) (rest := rest.map (am_v G)) hln9 hstack (hdg rfl hl3)
              exact ⟨vm₁, mk, X₁, X₁.named hnamed, hstep₁⟩
        · cases hrec
      | _ => cases hrec
  case invokespecial x =>
    have hl3 : len = 3 := by simpa [am_sws, am_len] using hln
    obtain ⟨hinst, hnm2, hret, hh⟩ := hk2 (hk.2.2 x rfl hne)
    have hcode := am_cw_code hgw hm hh
    rw [hret] at hcode
    simp only [am_recv] at hrec
    cases as with
    | nil => cases hrec
    | cons v0 As =>
      cases v0 with
      | ref o =>
        have hstack : (F0 m pc ls (st.map (am_v G))).stack = (As.map (am_v G)).reverse ++ .ref (am_ad G o) :: rest.map (am_v G) := by
          show st.map (am_v G) = _
          rw [hst]
          simp [am_v]
        simp only [am_chk2, if_neg hne, Bool.and_eq_true, Bool.or_eq_true, decide_eq_true_eq] at hc2
        have hln9 : ∀ sig, parseMethodDescriptor (M a).1.desc = some sig → (As.map (am_v G)).length = sig.parameters.length := by
          intro sig hsig
          have h9 := hc2.1.2
          rw [hsig] at h9
          have h10 : sig.parameters.length + 1 = b := Option.some.inj h9
          rw [List.length_map]
          simp only [List.length_cons] at hlen
          omega
        rcases hc2.2 with hl1 | hl1
        · obtain ⟨mk, methM, cM, kP, vm₁, hnamed, hmethM, hcodeM, -, hlocalsM, -, hkP, -, hW₁, hstep₁⟩ := Steps.initColdArgs (e := e) X.here hx X.warmed hpl hown hnm2 hy (hgw _ (am_word_gw hl1 rfl)) (hgw _ hinst) hcode (f := F0 m pc ls (st.map (am_v G))) rfl hln9 hstack (hdg rfl hl3)
          have X₁ := X.noted hW₁
          exact ⟨vm₁, mk, X₁, X₁.named hnamed, hstep₁⟩
        · have hnw := va_Nw.use (A := args) rfl (henv.2.2.2.2.2.1 _ (List.mem_filter.mpr ⟨am_word_in hl1, rfl⟩))
          obtain ⟨mk, methM, cM, kP, vm₁, hnamed, hmethM, hcodeM, -, hlocalsM, -, hkP, -, hW₁, hstep₁⟩ := Steps.initColdArgsNest (e := e) X.here hx X.warmed hpl hown hnm2 hy hnw (hgw _ hinst) hcode (f := F0 m pc ls (st.map (am_v G))) rfl hln9 hstack (hdg rfl hl3)
          have X₁ := X.noted hW₁
          exact ⟨vm₁, mk, X₁, X₁.named hnamed, hstep₁⟩
      | _ => cases hrec
  case invokestatic x =>
    have hl3 : len = 3 := by simpa [am_sws, am_len] using hln
    have hstt := hgw _ (hk1 (hk.2.1 x rfl))
    have hstack : (F0 m pc ls (st.map (am_v G))).stack = (as.map (am_v G)).reverse ++ rest.map (am_v G) := by
      show st.map (am_v G) = _
      rw [hst]
      simp
    simp only [am_chk2, Bool.and_eq_true, decide_eq_true_eq] at hc2
    have hln9 : ∀ sig, parseMethodDescriptor (M a).1.desc = some sig → (as.map (am_v G)).length = sig.parameters.length := by
      intro sig hsig
      have h9 := hc2.1.1
      rw [hsig] at h9
      have h10 : sig.parameters.length = b := Option.some.inj h9
      rw [List.length_map]
      omega
    have key : ∃ mk methM, s.methodNamed? (M a).1 = some mk ∧ s.vm.method? mk = some methM ∧ parseMethodDescriptor (M a).1.desc = some methM.sig := by
      have h := hgw _ hcw
      unfold am_cw at h
      split at h
      · obtain ⟨mk, hnamed⟩ := Cond.code_named h
        obtain ⟨methM, cM, hmethM, -, -, -, -, -, -, hsigM⟩ := Cond.code_spec hnamed h
        exact ⟨mk, methM, hnamed, hmethM, hsigM⟩
      · obtain ⟨mk, methM, cM, hnamed, hmethM, -, -, -, -, -, -, hsigM⟩ := Cond.codeWith_spec h
        exact ⟨mk, methM, hnamed, hmethM, hsigM⟩
    obtain ⟨mk, methM, hnamed, hmethM, hsigM⟩ := key
    have hstatic : methM.isStatic = true := Cond.static_spec hnamed hmethM hstt
    obtain ⟨kP, hkP, -⟩ := className_of_methodNamed hnamed
    have hinitP : kP.init = .initialized := Cond.initialized_spec (findClass_of_methodNamed hnamed) hkP (hgw _ hini)
    obtain ⟨vm₁, X₁, hstep₁⟩ := X.invokestatic hx hown (hgw _ (am_word_gw hc2.2 rfl)) hnamed hmethM hstatic hkP hinitP hy (g := F0 m pc ls (st.map (am_v G))) rfl (argsL := as.map (am_v G)) (rest := rest.map (am_v G)) (hln9 _ hsigM) hstack (hdg rfl hl3)
    exact ⟨vm₁, mk, X₁, X₁.named hnamed, hstep₁⟩
end AMI
end
section
/-! WHAT THE SMALL MACHINE DOES, THE MACHINE DOES -/
def am_le (S T : am_S) : Prop := S.1 ≤ T.1 ∧ S.2.2.1 ≤ T.2.2.1 ∧ S.2.2.2 ≤ T.2.2.2 ∧ T.1 + S.2.2.1 ≤ T.2.2.1 + S.1
theorem am_le_rf (S : am_S) : am_le S S := ⟨Nat.le_refl _, Nat.le_refl _, Nat.le_refl _, by omega⟩
theorem am_le_tr {S T U : am_S} (h : am_le S T) (h2 : am_le T U) : am_le S U := by
  unfold am_le at *
  omega
theorem am_le_upd (S : am_S) (a : Nat) (x : am_C) : am_le S (am_upd S a x) := am_le_rf S
theorem am_le_push (S : am_S) (x : am_C) (n : Nat) : am_le S (am_push S x n) := by
  unfold am_le am_push
  dsimp only
  omega
theorem am_le_thrown (S : am_S) : am_le S (am_thrown S) := by
  unfold am_le am_thrown
  dsimp only
  omega
set_option maxHeartbeats 4000000 in
theorem am_step_le {X : Nat × (Nat → Int32)} {i : am_I} {pc : Nat} {L : am_L} {st : List Value} {S : am_S} {q : am_F} (h : am_step X i pc L st S = some q) : am_le S q.2.2.2 := by
  obtain ⟨op, len, a, b, w, cst⟩ := i
  cases op <;> simp only [am_step, am_load, am_store, am_aload, am_astore, am_alen, am_getf, am_putf, am_newa] at h <;>
    (repeat' (split at h)) <;>
    first | (cases h; done) | (cases h; exact am_le_rf S) | (cases h; exact am_le_upd S _ _) | (cases h; exact am_le_push S _ _)
theorem am_end_le {ret : Option FieldType} {i : am_I} {st : List Value} {S : am_S} {r : am_R} (h : am_end ret i st S = some r) : am_le S r.2 := by
  obtain ⟨op, len, a, b, w, cst⟩ := i
  unfold am_end at h
  dsimp only at h
  split at h
  · split at h
    · split at h
      · cases h; exact am_le_rf S
      · cases h
    · cases h
  · split at h
    · cases h; exact am_le_rf S
    · cases h
  · split at h
    · cases h; exact am_le_rf S
    · cases h
  · split at h
    · split at h
      · cases h; exact am_le_thrown S
      · cases h; exact am_le_thrown S
      · cases h; exact am_le_thrown S
      · cases h
    · cases h
  · cases h
theorem am_go_le {P : Nat → Nat → Option am_I} {M : Nat → am_M} {X : Nat × (Nat → Int32)} {ev : Nat → List Value → am_S → am_R → Prop} (hev : ∀ k as S r, ev k as S r → am_le S r.2) {k : Nat} :
    ∀ {n pc : Nat} {L : am_L} {st : List Value} {S : am_S} {r : am_R}, am_go P M X ev k n pc L st S r → am_le S r.2 := by
  intro n
  induction n with
  | zero => intro pc L st S r h; exact absurd h (by simp [am_go])
  | succ n ih =>
    intro pc L st S r h
    simp only [am_go] at h
    obtain ⟨i, hi, ⟨q, hq, hgo⟩ | he | ⟨-, -, as, rest, r1, -, -, hr1, hm⟩⟩ := h
    · exact am_le_tr (am_step_le hq) (ih hgo)
    · exact am_end_le he
    · have h1 := hev _ _ _ _ hr1
      split at hm
      · exact am_le_tr h1 (ih hm)
      · rcases hm with ⟨-, rfl⟩ | ⟨x, -, rfl⟩
        · exact h1
        · exact h1
theorem am_ev_le {P : Nat → Nat → Option am_I} {M : Nat → am_M} {X : Nat × (Nat → Int32)} : ∀ {d k : Nat} {as : List Value} {S : am_S} {r : am_R}, am_ev P M X d k as S r → am_le S r.2 := by
  intro d
  induction d with
  | zero => intro k as S r h; exact absurd h (by simp [am_ev])
  | succ d ih =>
    intro k as S r h
    simp only [am_ev] at h
    obtain ⟨-, n, hn⟩ := h
    exact am_go_le (fun k as S r h => ih h) hn
/-- what a handler is: it keeps the object, and gives back a number -/
def am_hok (M : Nat → am_M) (k : Nat) : Prop := ∀ h ∈ (M k).2.2.2.2, (∃ e9, e9 < 3 ∧ h.2.2.2.2.1 = am_exc (100 + e9)) ∧ h.2.2.2.1 ≠ 0 ∧ Cond.classLink (M k).1.cls h.2.2.2.1 h.2.2.2.2.1 ∈ am_gw ∧ Cond.castable h.2.2.2.2.1 h.2.2.2.2.1 ∈ am_nw ∧ (M k).2.2.2.1 = some .int ∧
  ∃ (n : Int) (q : Nat), Int32.ofInt n = h.2.2.2.2.2 ∧ ((∃ j : Fin 4, decode (M k).2.1 h.2.2.1 = .ok (.astore_n j, 1) ∧ q = h.2.2.1 + 1 ∧ (j : Nat) < (M k).2.2.1) ∨ (∃ j : Nat, decode (M k).2.1 h.2.2.1 = .ok (.astore j, 2) ∧ q = h.2.2.1 + 2 ∧ j < (M k).2.2.1)) ∧
    decode (M k).2.1 q = .ok (.iconst n, 1) ∧ decode (M k).2.1 (q + 1) = .ok (.ireturn, 1)
theorem am_find_split {pc : Nat} {E : String} {x : Int32} : ∀ {hs : List (Nat × Nat × Nat × Nat × String × Int32)}, am_find hs pc E = some x →
    ∃ pre h suf, hs = pre ++ h :: suf ∧ (h.1 ≤ pc ∧ pc < h.2.1) ∧ h.2.2.2.2.1 = E ∧ h.2.2.2.2.2 = x ∧ ∀ y ∈ pre, ¬ (y.1 ≤ pc ∧ pc < y.2.1 ∧ y.2.2.2.2.1 = E) := by
  intro hs
  induction hs with
  | nil => intro h; cases h
  | cons y t ih =>
    intro h
    unfold am_find at h
    split at h
    · rename_i hc
      exact ⟨[], y, t, rfl, ⟨hc.1, hc.2.1⟩, hc.2.2, Option.some.inj h, fun z hz => by cases hz⟩
    · rename_i hc
      obtain ⟨pre, h0, suf, e1, e2, e3, e4, e5⟩ := ih h
      refine ⟨y :: pre, h0, suf, by rw [e1]; rfl, e2, e3, e4, fun z hz => ?_⟩
      rcases List.mem_cons.mp hz with rfl | hz
      · exact hc
      · exact e5 z hz
theorem am_thr_ok : ∀ q ∈ am_thr, (∀ w ∈ vx_at0 q.1 q.2.1 q.2.2 am_names, w ∈ am_gw ∨ w ∈ am_nw) ∧ (∀ w ∈ vx_at0 q.1 q.2.1 q.2.2 am_names, vx_ot w = true) ∧ Bundle.fit q.2.2 = true ∧ Cond.initialized q.2.2 ∈ am_gw := by decide +kernel
theorem am_names_fit : ∀ n ∈ am_names, Bundle.fit n = true := by decide +kernel
end
section
/-! WHAT THE SMALL MACHINE DOES, THE MACHINE DOES: a frame's run, then every method's contract -/
section AMG
variable {p : Program} {l : Launch} {e : Env} {R : Room} {s : State} {m : MethodId} {args : Array Value} {below : List Frame} {meth : Method} {c : Code} {Q : State → Prop}
variable {M : Nat → am_M} {kd : Nat → Nat} {P : Nat → Nat → Option am_I} {G : am_G} {k d : Nat}
set_option maxHeartbeats 1000000 in
theorem am_go_ok (hP : ∀ k pc i, P k pc = some i → am_chk M k pc i = true ∧ am_kchk kd i ∧ (am_isCall i.1 = true → i.2.2.1 ≠ 99999 → am_mok M kd i.2.2.1))
    (ihd : ∀ j as S r, am_mok M kd j → am_ev P M (am_X G) d j as S r → vx_Met l (M j).1 (am_wsM M j) (am_room d S r) (am_Pc G as S) (am_Qc G r) (am_XC G r) (r.2.2.2.1 - S.2.2.1) (r.2.2.2.2 - S.2.2.2) (am_A G))
    (C : am_ctx M G p s m args meth c k) {c0 s0 : Nat} {rF : am_R} (hRf : 17 + d ≤ R.frames) (hRl : 460 + 60 * d ≤ R.locals) (hRc : rF.2.2.2.1 ≤ c0 + R.cells) (hRs : rF.2.2.2.2 ≤ s0 + R.slots)
    (kend : ∀ (pc : Nat) (i : am_I) (L : am_L) (st : List Value) (S : am_S) (H : Heap) (locs : List Loc) (ls : Array Slot), P k pc = some i → am_end (M k).2.2.2.1 i st S = some rF → am_ls G ls (M k).2.2.1 L → am_world G S H → va_S (am_A G) s.heap H locs → c0 ≤ S.2.2.1 → s0 ≤ S.2.2.2 →
      W p l e R s m args below meth c H locs (S.2.2.1 - c0) (S.2.2.2 - s0) Q (F0 m pc ls (st.map (am_v G))))
    (kout : ∀ (E : String) (ce : Cell) (q9 : Addr) (pc : Nat) (rest : List Value) (S : am_S) (H : Heap) (locs : List Loc) (ls : Array Slot), (M k).2.2.2.2 = [] → rF = (.inr E, S) → am_world G S H → va_S (am_A G) s.heap H locs → H[q9]? = some ce → ce.vm = .none → s.vm.findClass E = some ce.cls →
      vx_W p l e R s m args below meth c H locs (S.2.2.1 - c0) (S.2.2.2 - s0) Q (F0 m pc ls rest) q9)
    (kcat : ∀ (E : String) (ce : Cell) (q9 : Addr) (pc : Nat) (x : Int32) (L : am_L) (rest : List Value) (S : am_S) (H : Heap) (locs : List Loc) (ls : Array Slot), am_find (M k).2.2.2.2 pc E = some x → rF = (.inl (some (.int x)), S) → am_ls G ls (M k).2.2.1 L → am_world G S H → va_S (am_A G) s.heap H locs → H[q9]? = some ce → ce.vm = .none → s.vm.findClass E = some ce.cls →
      vx_W p l e R s m args below meth c H locs (S.2.2.1 - c0) (S.2.2.2 - s0) Q (F0 m pc ls rest) q9) :
    ∀ (n pc : Nat) (L : am_L) (st : List Value) (S : am_S), am_go P M (am_X G) (am_ev P M (am_X G) d) k n pc L st S rF → ∀ (H : Heap) (locs : List Loc) (ls : Array Slot), am_ls G ls (M k).2.2.1 L → am_world G S H → va_S (am_A G) s.heap H locs → c0 ≤ S.2.2.1 → s0 ≤ S.2.2.2 → S.1 ≤ S.2.2.1 →
      (S.2.2.1 = S.1 → s.heap.size + (S.2.2.1 - c0) ≤ am_b0 G + S.1) → W p l e R s m args below meth c H locs (S.2.2.1 - c0) (S.2.2.2 - s0) Q (F0 m pc ls (st.map (am_v G))) := by
  intro n
  induction n with
  | zero => intro pc L st S h; exact absurd h (by simp [am_go])
  | succ n ih =>
    intro pc L st S h H locs ls hl hw hS hc0 hs0 hn hsz
    have hle : am_le S rF.2 := am_go_le (fun _ _ _ _ h9 => am_ev_le h9) h
    simp only [am_go] at h
    obtain ⟨i, hi, h⟩ := h
    obtain ⟨hchk, hkc, hmk⟩ := hP _ _ _ hi
    rcases h with ⟨q, hq, hgo⟩ | he | ⟨hcall, hne, as, rest, r1, hargs, hrec, hr1, hm⟩
    · have h1 := am_step_le hq
      have h2 : am_le q.2.2.2 rF.2 := am_go_le (fun _ _ _ _ h9 => am_ev_le h9) hgo
      unfold am_le at h1 h2
      refine am_step_ok C hchk hq hl hw hS hc0 hs0 (by omega) (by omega) (by omega) (by omega) hsz (fun H1 locs1 ls1 hl1 hw1 hS1 => ?_)
      exact ih _ _ _ _ hgo H1 locs1 ls1 hl1 hw1 hS1 (by omega) (by omega) (by omega) (fun e1 => by have h3 := hsz (by omega); omega)
    · exact kend pc i L st S H locs ls hi he hl hw hS hc0 hs0
    · obtain ⟨hx, hb, hml, hown, hgw, henv, hnm⟩ := id C
      have hmok := hmk hcall hne
      have h1 : am_le S r1.2 := am_ev_le hr1
      obtain ⟨op, len, a, b, w, cst⟩ := i
      have h2 : am_le r1.2 rF.2 := by
        split at hm
        · exact am_go_le (fun _ _ _ _ h9 => am_ev_le h9) hm
        · rcases hm with ⟨-, rfl⟩ | ⟨x, -, rfl⟩
          · exact am_le_rf _
          · exact am_le_rf _
      obtain ⟨hst, hal, h8⟩ := am_args_inv hargs
      have hd := (am_chk_sp hchk).1
      have hl3 : len = 3 := by
        have h9 := (am_chk_sp hchk).2.1
        dsimp only at h9 hcall
        cases op <;> first | (exact absurd (show false = true from hcall) (by decide)) | simpa [am_sws, am_len] using h9
      subst hl3
      dsimp only at hr1 hmok hd
      refine am_bysize fun hHs => ?_
      have hK := am_back (p := p) (e := e) (below := below) (R := R) hgw hmok (ihd a as S r1 hmok hr1) (am_blind G as S) rfl rfl (by show 16 + d + 1 ≤ R.frames; omega) (by show 8 + ((M a).2.2.1 + 11) + (400 + 60 * d) ≤ R.locals; have := hmok.2.2.1; omega)
      unfold am_le at h1 h2
      have hr := am_run_of (a := (as.map (am_v G)).toArray) (g := F0 m pc ls (st.map (am_v G))) (rest := rest.map (am_v G)) (H := H) (locs := locs) (cells := S.2.2.1 - c0) (slots := S.2.2.2 - s0) (meth := meth) hK (fun T hT X => am_hinv C hmok hkc hcall hne hchk hargs hrec hw T hT X)
        (fun U hU hW => ⟨rfl, by rw [hU]; exact hw, am_env_move henv hW (fun q h9 h10 => by rw [hU]; exact hS.2.1 q h9 h10) (by rw [hU]; exact hS.1), fun e9 => by have h3 := hsz e9; rw [hU]; omega, hn⟩)
        rfl (hl.1.trans hml.symm) (by show 2 * 0 + ((rest.map (am_v G)).map fun v => v.category).sum ≤ 8; rw [am_v_cats]; omega) (by rw [hb]; exact hd) ⟨by omega, by omega⟩
      refine am_after hr hS (fun v H1 locs1 hv hw1 hS1 => ?_) (fun E ce q9 H1 locs1 hE hw1 hS1 hce hcv hcl => ?_)
      · rw [hv] at hm
        dsimp only at hm
        have e1 : (v.map (am_v G)).toList ++ rest.map (am_v G) = (v.toList ++ rest).map (am_v G) := by cases v <;> simp
        show W p l e R s m args below meth c H1 locs1 _ _ Q (F0 m (pc + 3) ls ((v.map (am_v G)).toList ++ rest.map (am_v G)))
        rw [e1]
        exact am_eqW (by omega) (by omega) (ih _ _ _ _ hm H1 locs1 ls hl hw1 hS1 (by omega) (by omega) (by omega) (fun e9 => by have h3 := hsz (by omega); omega))
      · rw [hE] at hm
        dsimp only at hm
        have key : ∀ {g9 : JFrame}, vx_W p l e R s m args below meth c H1 locs1 (r1.2.2.2.1 - c0) (r1.2.2.2.2 - s0) Q g9 q9 → vx_W p l e R s m args below meth c H1 locs1 (S.2.2.1 - c0 + (r1.2.2.2.1 - S.2.2.1)) (S.2.2.2 - s0 + (r1.2.2.2.2 - S.2.2.2)) Q g9 q9 := by
          intro g9 hk9
          rw [show S.2.2.1 - c0 + (r1.2.2.2.1 - S.2.2.1) = r1.2.2.2.1 - c0 by omega, show S.2.2.2 - s0 + (r1.2.2.2.2 - S.2.2.2) = r1.2.2.2.2 - s0 by omega]
          exact hk9
        rcases hm with ⟨hh, hrF⟩ | ⟨x, hf, hrF⟩
        · exact key (kout E ce q9 pc _ r1.2 H1 locs1 ls hh hrF hw1 hS1 hce hcv hcl)
        · exact key (kcat E ce q9 pc x L _ r1.2 H1 locs1 ls hf hrF hl hw1 hS1 hce hcv hcl)
end AMG
end
section
/-! EVERY METHOD OF THE SMALL MACHINE HAS ITS CONTRACT OF THE MACHINE -/
theorem am_flat_len (G : am_G) (as : List Value) : (lg_sl (as.map (am_v G))).length = (am_flat as).length := by
  induction as with
  | nil => rfl
  | cons v t ih =>
    have e1 : lg_sl ((v :: t).map (am_v G)) = (if v.category = 2 then [.val (am_v G v), .second] else [.val (am_v G v)]) ++ lg_sl (t.map (am_v G)) := by
      simp [lg_sl, am_v_cat]
    have e2 : am_flat (v :: t) = (if v.category = 2 then [some v, none] else [some v]) ++ am_flat t := by simp [am_flat]
    rw [e1, e2, List.length_append, List.length_append, ih]
    split <;> rfl
theorem am_flat_at (G : am_G) : ∀ (as : List Value) (i : Nat) (v : Value), (am_flat as)[i]? = some (some v) → (lg_sl (as.map (am_v G)))[i]? = some (.val (am_v G v)) := by
  intro as
  induction as with
  | nil => intro i v h; simp [am_flat] at h
  | cons w t ih =>
    intro i v h
    have e1 : lg_sl ((w :: t).map (am_v G)) = (if w.category = 2 then [.val (am_v G w), .second] else [.val (am_v G w)]) ++ lg_sl (t.map (am_v G)) := by
      simp [lg_sl, am_v_cat]
    have e2 : am_flat (w :: t) = (if w.category = 2 then [some w, none] else [some w]) ++ am_flat t := by simp [am_flat]
    rw [e2] at h
    rw [e1]
    split at h
    · rename_i hc
      rw [if_pos hc]
      match i, h with
      | 0, h => cases h; rfl
      | 1, h => cases h
      | j + 2, h => exact ih j v h
    · rename_i hc
      rw [if_neg hc]
      match i, h with
      | 0, h => cases h; rfl
      | j + 1, h => exact ih j v h
theorem am_entry_ls (G : am_G) (as : List Value) {n : Nat} (h : (am_flat as).length ≤ n) : am_ls G ((lg_sl (as.map (am_v G)) ++ List.replicate (n - (lg_sl (as.map (am_v G))).length) Slot.unset).toArray) n (am_entry n as) := by
  have hl := lv_entry (as.map (am_v G)) (n := n) (by rw [am_flat_len]; exact h)
  refine ⟨hl.1, hl.2.1, ?_, fun i v hi => ?_⟩
  · simp only [am_entry, List.length_append, List.length_replicate]
    omega
  · unfold am_entry at hi
    by_cases hlt : i < (am_flat as).length
    · rw [List.getElem?_append_left hlt] at hi
      have h1 := am_flat_at G as i v hi
      rw [List.getElem?_toArray, List.getElem?_append_left (by rw [am_flat_len]; exact hlt)]
      exact h1
    · rw [List.getElem?_append_right (Nat.le_of_not_lt hlt), List.getElem?_replicate] at hi
      split at hi <;> cases hi
theorem am_end_i {ret : Option FieldType} {len a b w : Nat} {cst : Int} {st : List Value} {S : am_S} {r : am_R} (h : am_end ret (.ireturn, len, a, b, w, cst) st S = some r) : ∃ v ty, st = [.int v] ∧ ret = some ty ∧ narrow ty (.int v) = .int v ∧ r = (.inl (some (.int v)), S) := by
  unfold am_end at h
  dsimp only at h
  split at h
  · split at h
    · rename_i hn
      cases h
      exact ⟨_, _, rfl, rfl, hn, rfl⟩
    · cases h
  · cases h
theorem am_end_l {ret : Option FieldType} {len a b w : Nat} {cst : Int} {st : List Value} {S : am_S} {r : am_R} (h : am_end ret (.lreturn, len, a, b, w, cst) st S = some r) : ∃ v, st = [.long v] ∧ ret = some .long ∧ r = (.inl (some (.long v)), S) := by
  unfold am_end at h
  dsimp only at h
  split at h
  · cases h
    exact ⟨_, rfl, rfl, rfl⟩
  · cases h
theorem am_end_v {ret : Option FieldType} {len a b w : Nat} {cst : Int} {st : List Value} {S : am_S} {r : am_R} (h : am_end ret (.return_, len, a, b, w, cst) st S = some r) : st = [] ∧ ret = none ∧ r = (.inl none, S) := by
  unfold am_end at h
  dsimp only at h
  split at h
  · cases h
    exact ⟨rfl, rfl, rfl⟩
  · cases h
theorem am_end_n {ret : Option FieldType} {x len a b w : Nat} {cst : Int} {st : List Value} {S : am_S} {r : am_R} (h : am_end ret (.new x, len, a, b, w, cst) st S = some r) : st = [] ∧ (a = 100 ∨ a = 101 ∨ a = 102) ∧ r = (.inr (am_exc a), am_thrown S) := by
  unfold am_end at h
  dsimp only at h
  split at h
  · rename_i hs
    split at h
    · cases h; exact ⟨hs, Or.inl rfl, rfl⟩
    · cases h; exact ⟨hs, Or.inr (Or.inl rfl), rfl⟩
    · cases h; exact ⟨hs, Or.inr (Or.inr rfl), rfl⟩
    · cases h
  · cases h
/-- a contract out of its body, for a method in whose place no native stands -/
theorem am_ofW {l : Launch} {y : MethodName} {ws : List Cond} {rm : Room} {Pc : Array Value → State → Prop} {Qc : Array Value → State → Outcome → State → Prop} {XC : String → State → State → Prop} {mc ms : Nat} {free : Addr → Prop} {cc : ByteArray} {maxL : Nat} {ret : Option FieldType}
    (hy : plainFor y = true) (hw : Cond.code y cc maxL ret ∈ ws)
    (body : ∀ p e s m args below meth c s₁, BodyLoose p l y (headSpec ws rm) cc maxL ret e s m args below meth c s₁ → c.maxLocals = maxL → (∀ x ∈ c.exceptionTable.toList, False) → Pc args s →
      W p l e (headSpec ws rm).room s m args below meth c s.heap [] 0 0 (vx_MQ below Qc XC args s mc ms free) (entryFrame m args maxL)) : vx_Met l y ws rm Pc Qc XC mc ms free := by
  refine MetFree.of_bodySF (code := cc) (maxLocals := maxL) (ret := ret) hy ?_ ?_
  · intro args s m h hn
    obtain ⟨meth, c, h1, h2, h3, h4, h5, h6, -, -⟩ := Cond.code_spec hn (atoms_spec (ws := ws) h _ hw)
    exact ⟨meth, c, h1, h2, h3, h4, h5, h6⟩
  · intro p e s m args below meth c s₁ B hml hP _
    have hh0 : s₁.heap = s.heap := by rw [B.state]; rfl
    have ht : ∀ x ∈ c.exceptionTable.toList, False := by
      obtain ⟨meth9, c9, h1, h2, -, -, -, -, h7, -⟩ := Cond.code_spec B.named (atoms_spec (ws := ws) B.pre _ hw)
      cases Option.some.inj (h1.symm.trans B.method)
      cases Option.some.inj (h2.symm.trans (Stand.of_body B).code)
      intro x hx
      rw [Array.isEmpty_iff.mp h7] at hx
      cases hx
    obtain ⟨t, a1, o, b1, b2, b3⟩ := body p e s m args below meth c s₁ B hml ht hP s₁ hh0 (Stand.of_body B)
    exact ⟨t, o, a1, b1, b2, b3⟩
theorem am_ofWH {l : Launch} {y : MethodName} {ws : List Cond} {rm : Room} {Pc : Array Value → State → Prop} {Qc : Array Value → State → Outcome → State → Prop} {XC : String → State → State → Prop} {mc ms : Nat} {free : Addr → Prop} {cc : ByteArray} {maxL : Nat} {ret : Option FieldType} {hh : List (Nat × Nat × Nat × Nat)}
    (hy : plainFor y = true) (hw : Cond.codeWith y cc maxL ret hh ∈ ws)
    (body : ∀ p e s m args below meth c s₁, BodyLoose p l y (headSpec ws rm) cc maxL ret e s m args below meth c s₁ → c.maxLocals = maxL → Pc args s →
      W p l e (headSpec ws rm).room s m args below meth c s.heap [] 0 0 (vx_MQ below Qc XC args s mc ms free) (entryFrame m args maxL)) : vx_Met l y ws rm Pc Qc XC mc ms free := by
  refine MetFree.of_bodySF (code := cc) (maxLocals := maxL) (ret := ret) hy ?_ ?_
  · intro args s m h hn
    obtain ⟨m9, meth, c, hn9, h1, h2, h3, h4, -, h5, h6, -⟩ := Cond.codeWith_spec (atoms_spec (ws := ws) h _ hw)
    cases hn.symm.trans hn9
    exact ⟨meth, c, h1, h2, h3, h4, h5, h6⟩
  · intro p e s m args below meth c s₁ B hml hP _
    have hh0 : s₁.heap = s.heap := by rw [B.state]; rfl
    obtain ⟨t, a1, o, b1, b2, b3⟩ := body p e s m args below meth c s₁ B hml hP s₁ hh0 (Stand.of_body B)
    exact ⟨t, o, a1, b1, b2, b3⟩
section AMS
variable {l : Launch} {M : Nat → am_M} {kd : Nat → Nat} {P : Nat → Nat → Option am_I} {G : am_G}
section AMS1
variable {p : Program} {e : Env} {R : Room} {s : State} {m : MethodId} {args : Array Value} {below : List Frame} {meth : Method} {c : Code} {k pc : Nat} {ls : Array Slot} {H : Heap} {locs : List Loc}
/-- a method's end -/
theorem am_kend (hl : l.stackTraces = false) (C : am_ctx M G p s m args meth c k) (hlocks : meth.locks = false) (hr : meth.sig.returnType = (M k).2.2.2.1) (htab : c.exceptionTable.toList = tableOf (am_hh M k)) {c0 s0 : Nat} {rF : am_R} {i : am_I} {L : am_L} {st : List Value} {S : am_S}
    (hRf : 17 ≤ R.frames) (hRl : 460 ≤ R.locals) (hRc : rF.2.2.2.1 ≤ c0 + R.cells) (hRs : rF.2.2.2.2 ≤ s0 + R.slots)
    (hchk : am_chk M k pc i = true) (he : am_end (M k).2.2.2.1 i st S = some rF) (hls : am_ls G ls (M k).2.2.1 L) (hw : am_world G S H) (hS : va_S (am_A G) s.heap H locs) (hc0 : c0 ≤ S.2.2.1) (hs0 : s0 ≤ S.2.2.2) :
    W p l e R s m args below meth c H locs (S.2.2.1 - c0) (S.2.2.2 - s0) (vx_MQ below (am_Qc G rF) (am_XC G rF) args s (rF.2.2.2.1 - c0) (rF.2.2.2.2 - s0) (am_A G)) (F0 m pc ls (st.map (am_v G))) := by
  obtain ⟨hx, hb, hml, hown, hgw, henv, hnm⟩ := C
  obtain ⟨hd, hln, hc2⟩ := am_chk_sp hchk
  obtain ⟨op, len, a, b, w, cst⟩ := i
  dsimp only at hd hln hc2
  cases op <;> first | (exact absurd (show (none : Option am_R) = some rF from he) (by simp)) | skip
  case ireturn =>
    have hl1 : len = 1 := by simpa [am_sws, am_len] using hln
    subst hl1
    obtain ⟨v, ty, rfl, hty, hnar, rfl⟩ := am_end_i he
    rw [hty] at hr
    exact vx_ret (W.zret hx hb hr hnar (fun t ht _ => ⟨⟨some (.int v), rfl, rfl, by rw [ht]; exact hw⟩, hS.F ht⟩) hS.2.2 hd hlocks)
  case lreturn =>
    have hl1 : len = 1 := by simpa [am_sws, am_len] using hln
    subst hl1
    obtain ⟨v, rfl, hty, rfl⟩ := am_end_l he
    rw [hty] at hr
    exact vx_ret (W.lret hx hb hr (fun t ht _ => ⟨⟨some (.long v), rfl, rfl, by rw [ht]; exact hw⟩, hS.F ht⟩) hS.2.2 hd hlocks)
  case return_ =>
    have hl1 : len = 1 := by simpa [am_sws, am_len] using hln
    subst hl1
    obtain ⟨rfl, hty, rfl⟩ := am_end_v he
    rw [hty] at hr
    exact vx_ret (W.vret hx hb hr (fun t ht _ => ⟨⟨none, rfl, rfl, by rw [ht]; exact hw⟩, hS.F ht⟩) hS.2.2 hd hlocks)
  case new x =>
      have hl1 : len = 3 := by simpa [am_sws, am_len] using hln
      subst hl1
      obtain ⟨rfl, ha, rfl⟩ := am_end_n he
      have ha11 : ¬ a < 11 := by rcases ha with rfl | rfl | rfl <;> decide
      simp only [am_chk2, if_neg ha11, Bool.and_eq_true, decide_eq_true_eq] at hc2
      obtain ⟨⟨⟨⟨⟨⟨-, hwd⟩, hth⟩, d3⟩, d4⟩, d7⟩, hemp⟩ := hc2
      obtain ⟨hat, hot, hfit, hini⟩ := am_thr_ok _ hth
      have hno : c.exceptionTable.toList = [] := by
        rw [htab]
        unfold am_hh
        rw [List.isEmpty_iff.mp hemp]
        rfl
      dsimp only at hat hot hfit hini
      refine vx_throw0 (names := am_names) (A := am_A G) hx hb hl hown hfit am_names_fit (hgw _ (am_word_gw hwd rfl)) (hgw _ hini) (fun w9 h9 => (hat w9 h9).elim (fun h => hgw _ h) (fun h => va_Nw.use ?_ (henv.2.2.2.2.2.1 _ h))) (fun w9 h9 => ?_) henv.2.1 henv.2.2.1 hS (hls.1.trans hml.symm) hd d3 d4 d7 (fun y hy => by rw [hno] at hy; cases hy)
        (by show 2 + 3 < R.frames; omega) (by show 0 + (13 * (2 + 1) + 42) ≤ R.locals; omega) ?_ ?_ hlocks (fun t hal hz hk => ⟨rfl, ⟨fun k9 q9 hq => ?_, hw.2⟩, ?_, fun q hq1 hq2 => ?_⟩) hS.2.2 ?_ ?_
      · have hk9 : am_nwK w9 = true := (List.mem_filter.mp h).2
        cases w9 <;> first | (exact absurd (show false = true from hk9) (by decide)) | rfl
      · rcases List.mem_cons.mp h9 with rfl | h9
        · rfl
        · rcases List.mem_cons.mp h9 with rfl | h9
          · rfl
          · exact hot w9 h9
      · have h1 : S.2.2.1 + 1 ≤ c0 + R.cells := hRc
        omega
      · have h1 : S.2.2.2 + 6 ≤ s0 + R.slots := hRs
        omega
      · have hv := hw.1 k9 q9 hq
        exact hv.kept (hk _ hv.lt)
      · exact Nat.le_trans hS.1 hz
      · rw [hk q (Nat.lt_of_lt_of_le hq1 hS.1)]
        exact hS.2.1 q hq1 hq2
      · show S.2.2.1 - c0 + 1 ≤ S.2.2.1 + 1 - c0
        omega
      · show S.2.2.2 - s0 + 6 ≤ S.2.2.2 + 6 - s0
        omega
/-- an exception that this method does not catch -/
theorem am_kout (hlocks : meth.locks = false) (htab : c.exceptionTable.toList = tableOf (am_hh M k)) {c0 s0 : Nat} {rF : am_R} {E : String} {ce : Cell} {q9 : Addr} {rest : List Value} {S : am_S} (hh : (M k).2.2.2.2 = []) (hrF : rF = (.inr E, S)) (hw : am_world G S H) (hS : va_S (am_A G) s.heap H locs)
    (hce : H[q9]? = some ce) (hcv : ce.vm = .none) (hcl : s.vm.findClass E = some ce.cls) :
    vx_W p l e R s m args below meth c H locs (S.2.2.1 - c0) (S.2.2.2 - s0) (vx_MQ below (am_Qc G rF) (am_XC G rF) args s (rF.2.2.2.1 - c0) (rF.2.2.2.2 - s0) (am_A G)) (F0 m pc ls rest) q9 := by
  subst hrF
  have hno : c.exceptionTable.toList = [] := by
    rw [htab]
    unfold am_hh
    rw [hh]
    rfl
  exact vx_out (E := E) (fun y hy => by rw [hno] at hy; cases hy) hlocks hce hcv hcl (fun t ht _ => ⟨rfl, by rw [ht]; exact hw, hS.F ht⟩) hS.2.2 (Nat.le_refl _) (Nat.le_refl _)
/-- an exception that this method catches -/
theorem am_kcat (C : am_ctx M G p s m args meth c k) (hhok : am_hok M k) (hlocks : meth.locks = false) (hr : meth.sig.returnType = (M k).2.2.2.1) (htab : c.exceptionTable.toList = tableOf (am_hh M k)) {c0 s0 : Nat} {rF : am_R} {E : String} {ce : Cell} {q9 : Addr} {x : Int32} {L : am_L} {rest : List Value} {S : am_S}
    (hf : am_find (M k).2.2.2.2 pc E = some x) (hrF : rF = (.inl (some (.int x)), S)) (hls : am_ls G ls (M k).2.2.1 L) (hw : am_world G S H) (hS : va_S (am_A G) s.heap H locs)
    (hce : H[q9]? = some ce) (hcv : ce.vm = .none) (hcl : s.vm.findClass E = some ce.cls) :
    vx_W p l e R s m args below meth c H locs (S.2.2.1 - c0) (S.2.2.2 - s0) (vx_MQ below (am_Qc G rF) (am_XC G rF) args s (rF.2.2.2.1 - c0) (rF.2.2.2.2 - s0) (am_A G)) (F0 m pc ls rest) q9 := by
  subst hrF
  obtain ⟨hx, hb, hml, hown, hgw, henv, hnm⟩ := C
  obtain ⟨pre, h, suf, hsp, hcov, hE, hnum, hpre⟩ := am_find_split hf
  have hin : h ∈ (M k).2.2.2.2 := by rw [hsp]; simp
  obtain ⟨⟨e1, he1, hce1⟩, hct, hlk, hca, hri, n, q, hnn, hast, hd2, hd3⟩ := hhok h hin
  rw [hri] at hr
  intro T hT X
  have hpl : e.platform.magicAccessors = ({} : Platform).magicAccessors := by rw [X.admits.platform]
  have hnw := va_Nw.use (A := args) rfl (henv.2.2.2.2.2.1 _ hca)
  obtain ⟨c3, c4, hc3, hc4, hasg⟩ := Cond.castable_spec hnw
  obtain ⟨c5, hc5, hcl5⟩ := Cond.classLink_spec hown (hgw _ hlk) e.platform hpl
  rw [hE] at hc3 hc4 hc5
  cases Option.some.inj (hc3.symm.trans hcl)
  cases Option.some.inj (hc4.symm.trans hc5)
  have hsplit : c.exceptionTable.toList = (pre.map fun y => (⟨y.1, y.2.1, y.2.2.1, y.2.2.2.1⟩ : ExceptionTableEntry)) ++ ⟨h.1, h.2.1, h.2.2.1, h.2.2.2.1⟩ :: (suf.map fun y => (⟨y.1, y.2.1, y.2.2.1, y.2.2.2.1⟩ : ExceptionTableEntry)) := by
    rw [htab]
    unfold am_hh tableOf
    rw [hsp, List.map_map, List.map_append, List.map_cons]
    rfl
  obtain ⟨vm', X', st⟩ := am_caught X (a := q9) (g := F0 m pc ls rest) rfl (cell := ce) (by rw [hT]; exact hce) (fun k9 h9 => by rw [hcv] at h9; cases h9) (by obtain ⟨k9, h9, -⟩ := Vm.findClass_spec hcl; exact ⟨k9, h9⟩) _ _ _ hsplit
    (fun y hy => by
      obtain ⟨z, hz, rfl⟩ := List.mem_map.mp hy
      by_cases hcz : z.1 ≤ pc ∧ pc < z.2.1
      · have hzin : z ∈ (M k).2.2.2.2 := by rw [hsp]; simp [hz]
        obtain ⟨⟨e2, he2, hce2⟩, hzt, hzl, -⟩ := hhok z hzin
        have hne : e1 ≠ e2 := fun h9 => hpre z hz ⟨hcz.1, hcz.2, by rw [hce2, ← h9, ← hce1, hE]⟩
        obtain ⟨c6, hc6, hcl6⟩ := Cond.classLink_spec hown (hgw _ hzl) e.platform hpl
        obtain ⟨a8, b8, h1, h2, h3⟩ := henv.2.2.2.2.2.2.2.2 e1 e2 he1 he2 hne
        rw [← hce1, hE] at h1
        rw [← hce2] at h2
        cases Option.some.inj (h1.symm.trans hcl)
        cases Option.some.inj (h2.symm.trans hc6)
        exact Or.inr ⟨by simp [covers, hcz.1, hcz.2], hzt, _, hcl6, h3⟩
      · refine Or.inl ⟨rfl, ?_⟩
        simp only [covers, Bool.and_eq_false_iff, decide_eq_false_iff_not]
        by_cases h9 : z.1 ≤ pc
        · exact Or.inr fun h10 => hcz ⟨h9, h10⟩
        · exact Or.inl h9)
    (Or.inr ⟨by simp [covers, hcov.1, hcov.2], hct, _, hcl5, hasg⟩)
  have hend : ∀ ls' : Array Slot, W p l e R s m args below meth c H locs (S.2.2.1 - c0) (S.2.2.2 - s0) (vx_MQ below (am_Qc G (.inl (some (.int x)), S)) (am_XC G (.inl (some (.int x)), S)) args s (S.2.2.1 - c0) (S.2.2.2 - s0) (am_A G)) (F0 m q ls' []) := by
    intro ls'
    refine lv_iconst hx hb hd2 (hnn.trans hnum) ?_
    exact vx_ret (W.zret hx hb hr rfl (fun t ht _ => ⟨⟨some (.int x), rfl, rfl, by rw [ht]; exact hw⟩, hS.F ht⟩) hS.2.2 hd3 hlocks)
  have hgo : W p l e R s m args below meth c H locs (S.2.2.1 - c0) (S.2.2.2 - s0) (vx_MQ below (am_Qc G (.inl (some (.int x)), S)) (am_XC G (.inl (some (.int x)), S)) args s (S.2.2.1 - c0) (S.2.2.2 - s0) (am_A G)) (F0 m h.2.2.1 ls [.ref q9]) := by
    rcases hast with ⟨j, hdj, hq, hj⟩ | ⟨j, hdj, hq, hj⟩
    · subst hq
      exact lv_astore_n hx hb hdj rfl (am_ls_has hls) hj rfl (fun ls' _ => hend ls')
    · subst hq
      exact lv_astore hx hb hdj (am_ls_has hls) hj rfl (fun ls' _ => hend ls')
  obtain ⟨t, a1, b1⟩ := hgo (T.setVm vm') hT X'
  exact ⟨t, st t a1, b1⟩
end AMS1
set_option maxHeartbeats 1000000 in
theorem am_sound (hl : l.stackTraces = false) (hP : ∀ k pc i, P k pc = some i → am_chk M k pc i = true ∧ am_kchk kd i ∧ (am_isCall i.1 = true → i.2.2.1 ≠ 99999 → am_mok M kd i.2.2.1)) (hH : ∀ k, am_hok M k) :
    ∀ (d j : Nat) (as : List Value) (S : am_S) (r : am_R), am_mok M kd j → am_ev P M (am_X G) d j as S r →
      vx_Met l (M j).1 (am_wsM M j) (am_room d S r) (am_Pc G as S) (am_Qc G r) (am_XC G r) (r.2.2.2.1 - S.2.2.1) (r.2.2.2.2 - S.2.2.2) (am_A G) := by
  intro d
  induction d with
  | zero => intro j as S r _ h; exact absurd h (by simp [am_ev])
  | succ d ih =>
    intro j as S r hm h
    have hle : am_le S r.2 := am_ev_le h
    simp only [am_ev] at h
    obtain ⟨hfl, n, hgo⟩ := h
    have body : ∀ p e s m args below meth c s₁, BodyLoose p l (M j).1 (headSpec (am_wsM M j) (am_room (d + 1) S r)) (M j).2.1 (M j).2.2.1 (M j).2.2.2.1 e s m args below meth c s₁ → c.maxLocals = (M j).2.2.1 → c.exceptionTable.toList = tableOf (am_hh M j) → am_Pc G as S args s →
        W p l e (headSpec (am_wsM M j) (am_room (d + 1) S r)).room s m args below meth c s.heap [] 0 0 (vx_MQ below (am_Qc G r) (am_XC G r) args s (r.2.2.2.1 - S.2.2.1) (r.2.2.2.2 - S.2.2.2) (am_A G)) (entryFrame m args (M j).2.2.1) := by
      intro p e s m args below meth c s₁ B hml htab hPc
      obtain ⟨rfl, hw, henv, hsz, hn⟩ := hPc
      have hts := atoms_spec (ws := am_wsM M j) B.pre
      have C : am_ctx M G p s m (as.map (am_v G)).toArray meth c j := ⟨B.exec, B.bytes, hml, findClass_of_methodNamed B.named, fun w hw9 => hts w (List.mem_cons_of_mem _ hw9), henv, (name_of_methodNamed B.named B.method).1⟩
      rw [lg_entry_eq]
      unfold am_le at hle
      refine am_eqW (n1 := S.2.2.1 - S.2.2.1) (m1 := S.2.2.2 - S.2.2.2) (Nat.sub_self _) (Nat.sub_self _) ?_
      refine am_go_ok (R := (headSpec (am_wsM M j) (am_room (d + 1) S r)).room) hP ih C (rF := r) (by show 17 + d ≤ 16 + (d + 1); omega) (by show 460 + 60 * d ≤ 400 + 60 * (d + 1); omega) (by show r.2.2.2.1 ≤ S.2.2.1 + (r.2.2.2.1 - S.2.2.1); omega) (by show r.2.2.2.2 ≤ S.2.2.2 + (r.2.2.2.2 - S.2.2.2); omega)
        (fun pc i L st S9 H locs ls hi he hl9 hw9 hS9 hc9 hs9 => am_kend hl C B.notSynchronized B.returns htab (by show 17 ≤ 16 + (d + 1); omega) (by show 460 ≤ 400 + 60 * (d + 1); omega) (by show r.2.2.2.1 ≤ S.2.2.1 + (r.2.2.2.1 - S.2.2.1); omega) (by show r.2.2.2.2 ≤ S.2.2.2 + (r.2.2.2.2 - S.2.2.2); omega) (hP _ _ _ hi).1 he hl9 hw9 hS9 hc9 hs9)
        (fun E ce q9 pc rest S9 H locs ls hh hrF hw9 hS9 hce hcv hcl => am_kout B.notSynchronized htab hh hrF hw9 hS9 hce hcv hcl)
        (fun E ce q9 pc x L rest S9 H locs ls hf hrF hl9 hw9 hS9 hce hcv hcl => am_kcat C (hH j) B.notSynchronized B.returns htab hf hrF hl9 hw9 hS9 hce hcv hcl)
        n 0 _ [] S hgo s.heap [] _ (am_entry_ls G as hfl) hw va_S.rf (Nat.le_refl _) (Nat.le_refl _) hn (fun e9 => by have h9 := hsz e9; omega)
    by_cases hh : (M j).2.2.2.2 = []
    · refine am_ofW (cc := (M j).2.1) (maxL := (M j).2.2.1) (ret := (M j).2.2.2.1) hm.2.2.2.1 (by unfold am_wsM am_cw; rw [if_pos hh]; exact List.mem_cons_self) ?_
      intro p e s m args below meth c s₁ B hml htab hPc
      refine body p e s m args below meth c s₁ B hml ?_ hPc
      have e1 : am_hh M j = [] := by unfold am_hh; rw [hh]; rfl
      rw [e1]
      cases hcs : c.exceptionTable.toList with
      | nil => rfl
      | cons a9 t9 => exact absurd (htab a9 (by rw [hcs]; exact List.mem_cons_self)) (fun h => h)
    · refine am_ofWH (cc := (M j).2.1) (maxL := (M j).2.2.1) (ret := (M j).2.2.2.1) (hh := am_hh M j) hm.2.2.2.1 (by unfold am_wsM am_cw; rw [if_neg hh]; exact List.mem_cons_self) ?_
      intro p e s m args below meth c s₁ B hml hPc
      refine body p e s m args below meth c s₁ B hml ?_ hPc
      have hts := atoms_spec (ws := am_wsM M j) B.pre
      exact vx_table (x := (M j).1) B (hts (Cond.codeWith (M j).1 (M j).2.1 (M j).2.2.1 (M j).2.2.2.1 (am_hh M j)) (by unfold am_wsM am_cw; rw [if_neg hh]; exact List.mem_cons_self))
end AMS
end
