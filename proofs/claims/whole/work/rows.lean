section
-- ===== PART A: goes FIRST, ahead of the names: the tables' words, and 'selects' of the private methods out of them =====
/-- a private method of a class that the tables say can be made, by its rows of tables_1 -/
def lw_okq (q : MethodName × Nat) : Prop := (q.1.cls ≠ "java/lang/invoke/MethodHandle" ∧ q.1.cls ≠ "java/lang/invoke/VarHandle") ∧ Cond.instantiable q.1.cls q.2 ∈ tables_1 ∧ Cond.privateMethod q.1 ∈ tables_1 ∧ Cond.instanceMethod q.1 ∈ tables_1
theorem lw_p0 : lw_okq (⟨"JudgeHalves", "found", "(I)I"⟩, 10) := ⟨⟨by decide +kernel, by decide +kernel⟩, List.mem_of_getElem? (i := 15) (by decide +kernel), List.mem_of_getElem? (i := 335) (by decide +kernel), List.mem_of_getElem? (i := 336) (by decide +kernel)⟩
theorem lw_p1 : lw_okq (⟨"JudgeHalves", "foundNothing", "(I)I"⟩, 10) := ⟨⟨by decide +kernel, by decide +kernel⟩, List.mem_of_getElem? (i := 15) (by decide +kernel), List.mem_of_getElem? (i := 345) (by decide +kernel), List.mem_of_getElem? (i := 346) (by decide +kernel)⟩
theorem lw_p2 : lw_okq (⟨"JudgeHalves$Rows", "hasPlaces", "(III)Z"⟩, 3) := ⟨⟨by decide +kernel, by decide +kernel⟩, List.mem_of_getElem? (i := 23) (by decide +kernel), List.mem_of_getElem? (i := 361) (by decide +kernel), List.mem_of_getElem? (i := 362) (by decide +kernel)⟩
theorem lw_p3 : lw_okq (⟨"JudgeHalves$Tape", "next", "()V"⟩, 11) := ⟨⟨by decide +kernel, by decide +kernel⟩, List.mem_of_getElem? (i := 114) (by decide +kernel), List.mem_of_getElem? (i := 417) (by decide +kernel), List.mem_of_getElem? (i := 418) (by decide +kernel)⟩
theorem lw_p4 : lw_okq (⟨"JudgeHalves$Tape", "byteAt", "(I)I"⟩, 11) := ⟨⟨by decide +kernel, by decide +kernel⟩, List.mem_of_getElem? (i := 114) (by decide +kernel), List.mem_of_getElem? (i := 421) (by decide +kernel), List.mem_of_getElem? (i := 422) (by decide +kernel)⟩
theorem lw_p5 : lw_okq (⟨"JudgeHalves$Tape", "lookAtNumber", "()V"⟩, 11) := ⟨⟨by decide +kernel, by decide +kernel⟩, List.mem_of_getElem? (i := 114) (by decide +kernel), List.mem_of_getElem? (i := 428) (by decide +kernel), List.mem_of_getElem? (i := 429) (by decide +kernel)⟩
theorem lw_p6 : lw_okq (⟨"JudgeHalves$Tape", "readLaw", "()Z"⟩, 11) := ⟨⟨by decide +kernel, by decide +kernel⟩, List.mem_of_getElem? (i := 114) (by decide +kernel), List.mem_of_getElem? (i := 432) (by decide +kernel), List.mem_of_getElem? (i := 433) (by decide +kernel)⟩
theorem lw_p7 : lw_okq (⟨"JudgeHalves$Tape", "seesLetter", "(I)Z"⟩, 11) := ⟨⟨by decide +kernel, by decide +kernel⟩, List.mem_of_getElem? (i := 114) (by decide +kernel), List.mem_of_getElem? (i := 436) (by decide +kernel), List.mem_of_getElem? (i := 437) (by decide +kernel)⟩
theorem lw_p8 : lw_okq (⟨"JudgeHalves$Tape", "faulty", "(I)Z"⟩, 11) := ⟨⟨by decide +kernel, by decide +kernel⟩, List.mem_of_getElem? (i := 114) (by decide +kernel), List.mem_of_getElem? (i := 440) (by decide +kernel), List.mem_of_getElem? (i := 441) (by decide +kernel)⟩
theorem lw_p9 : lw_okq (⟨"JudgeHalves$Tape", "readPair", "(IIII)Z"⟩, 11) := ⟨⟨by decide +kernel, by decide +kernel⟩, List.mem_of_getElem? (i := 114) (by decide +kernel), List.mem_of_getElem? (i := 444) (by decide +kernel), List.mem_of_getElem? (i := 445) (by decide +kernel)⟩
theorem lw_p10 : lw_okq (⟨"JudgeHalves$Tape", "seesNumber", "(II)Z"⟩, 11) := ⟨⟨by decide +kernel, by decide +kernel⟩, List.mem_of_getElem? (i := 114) (by decide +kernel), List.mem_of_getElem? (i := 448) (by decide +kernel), List.mem_of_getElem? (i := 449) (by decide +kernel)⟩
theorem lw_p11 : lw_okq (⟨"JudgeHalves$Tape", "passesSign", "(I)Z"⟩, 11) := ⟨⟨by decide +kernel, by decide +kernel⟩, List.mem_of_getElem? (i := 114) (by decide +kernel), List.mem_of_getElem? (i := 453) (by decide +kernel), List.mem_of_getElem? (i := 454) (by decide +kernel)⟩
theorem lw_p12 : lw_okq (⟨"JudgeHalves$Tape", "readJudges", "()Z"⟩, 11) := ⟨⟨by decide +kernel, by decide +kernel⟩, List.mem_of_getElem? (i := 114) (by decide +kernel), List.mem_of_getElem? (i := 461) (by decide +kernel), List.mem_of_getElem? (i := 462) (by decide +kernel)⟩
theorem lw_p13 : lw_okq (⟨"JudgeHalves$Tape", "readMen", "()Z"⟩, 11) := ⟨⟨by decide +kernel, by decide +kernel⟩, List.mem_of_getElem? (i := 114) (by decide +kernel), List.mem_of_getElem? (i := 469) (by decide +kernel), List.mem_of_getElem? (i := 470) (by decide +kernel)⟩
theorem lw_p14 : lw_okq (⟨"JudgeHalves$Tape", "sortSeen", "()I"⟩, 11) := ⟨⟨by decide +kernel, by decide +kernel⟩, List.mem_of_getElem? (i := 114) (by decide +kernel), List.mem_of_getElem? (i := 473) (by decide +kernel), List.mem_of_getElem? (i := 474) (by decide +kernel)⟩
theorem lw_p15 : lw_okq (⟨"JudgeHalves$Past", "placeOf", "(I)I"⟩, 3) := ⟨⟨by decide +kernel, by decide +kernel⟩, List.mem_of_getElem? (i := 156) (by decide +kernel), List.mem_of_getElem? (i := 516) (by decide +kernel), List.mem_of_getElem? (i := 517) (by decide +kernel)⟩
def lw_privs_1 : List (MethodName × Nat) := [(⟨"JudgeHalves", "found", "(I)I"⟩, 10), (⟨"JudgeHalves", "foundNothing", "(I)I"⟩, 10), (⟨"JudgeHalves$Rows", "hasPlaces", "(III)Z"⟩, 3), (⟨"JudgeHalves$Tape", "next", "()V"⟩, 11), (⟨"JudgeHalves$Tape", "byteAt", "(I)I"⟩, 11), (⟨"JudgeHalves$Tape", "lookAtNumber", "()V"⟩, 11), (⟨"JudgeHalves$Tape", "readLaw", "()Z"⟩, 11), (⟨"JudgeHalves$Tape", "seesLetter", "(I)Z"⟩, 11), (⟨"JudgeHalves$Tape", "faulty", "(I)Z"⟩, 11), (⟨"JudgeHalves$Tape", "readPair", "(IIII)Z"⟩, 11), (⟨"JudgeHalves$Tape", "seesNumber", "(II)Z"⟩, 11), (⟨"JudgeHalves$Tape", "passesSign", "(I)Z"⟩, 11), (⟨"JudgeHalves$Tape", "readJudges", "()Z"⟩, 11), (⟨"JudgeHalves$Tape", "readMen", "()Z"⟩, 11), (⟨"JudgeHalves$Tape", "sortSeen", "()I"⟩, 11), (⟨"JudgeHalves$Past", "placeOf", "(I)I"⟩, 3)]
theorem lw_r1 : ∀ q ∈ lw_privs_1, lw_okq q := List.forall_mem_cons.mpr ⟨lw_p0, List.forall_mem_cons.mpr ⟨lw_p1, List.forall_mem_cons.mpr ⟨lw_p2, List.forall_mem_cons.mpr ⟨lw_p3, List.forall_mem_cons.mpr ⟨lw_p4, List.forall_mem_cons.mpr ⟨lw_p5, List.forall_mem_cons.mpr ⟨lw_p6, List.forall_mem_cons.mpr ⟨lw_p7, List.forall_mem_cons.mpr ⟨lw_p8, List.forall_mem_cons.mpr ⟨lw_p9, List.forall_mem_cons.mpr ⟨lw_p10, List.forall_mem_cons.mpr ⟨lw_p11, List.forall_mem_cons.mpr ⟨lw_p12, List.forall_mem_cons.mpr ⟨lw_p13, List.forall_mem_cons.mpr ⟨lw_p14, List.forall_mem_cons.mpr ⟨lw_p15, fun _ h => absurd h List.not_mem_nil⟩⟩⟩⟩⟩⟩⟩⟩⟩⟩⟩⟩⟩⟩⟩⟩
theorem lw_p16 : lw_okq (⟨"JudgeHalves", "hasCircuit", "()Z"⟩, 10) := ⟨⟨by decide +kernel, by decide +kernel⟩, List.mem_of_getElem? (i := 15) (by decide +kernel), List.mem_of_getElem? (i := 528) (by decide +kernel), List.mem_of_getElem? (i := 529) (by decide +kernel)⟩
theorem lw_p17 : lw_okq (⟨"JudgeHalves$Circuit", "moveIn", "()V"⟩, 12) := ⟨⟨by decide +kernel, by decide +kernel⟩, List.mem_of_getElem? (i := 42) (by decide +kernel), List.mem_of_getElem? (i := 540) (by decide +kernel), List.mem_of_getElem? (i := 541) (by decide +kernel)⟩
theorem lw_p18 : lw_okq (⟨"JudgeHalves$Circuit", "liveBeside", "(IZ)V"⟩, 12) := ⟨⟨by decide +kernel, by decide +kernel⟩, List.mem_of_getElem? (i := 42) (by decide +kernel), List.mem_of_getElem? (i := 556) (by decide +kernel), List.mem_of_getElem? (i := 557) (by decide +kernel)⟩
theorem lw_p19 : lw_okq (⟨"JudgeHalves$Planner", "worthOfSending", "(III)I"⟩, 12) := ⟨⟨by decide +kernel, by decide +kernel⟩, List.mem_of_getElem? (i := 193) (by decide +kernel), List.mem_of_getElem? (i := 660) (by decide +kernel), List.mem_of_getElem? (i := 661) (by decide +kernel)⟩
theorem lw_p20 : lw_okq (⟨"JudgeHalves$Planner", "sendFrom", "(I)V"⟩, 12) := ⟨⟨by decide +kernel, by decide +kernel⟩, List.mem_of_getElem? (i := 193) (by decide +kernel), List.mem_of_getElem? (i := 674) (by decide +kernel), List.mem_of_getElem? (i := 675) (by decide +kernel)⟩
theorem lw_p21 : lw_okq (⟨"JudgeHalves$Planner", "weighSending", "()V"⟩, 12) := ⟨⟨by decide +kernel, by decide +kernel⟩, List.mem_of_getElem? (i := 193) (by decide +kernel), List.mem_of_getElem? (i := 679) (by decide +kernel), List.mem_of_getElem? (i := 680) (by decide +kernel)⟩
theorem lw_p22 : lw_okq (⟨"JudgeHalves$Planner", "nobodyWaitsWithout", "(LJudgeHalves$Circuit;II)Z"⟩, 12) := ⟨⟨by decide +kernel, by decide +kernel⟩, List.mem_of_getElem? (i := 193) (by decide +kernel), List.mem_of_getElem? (i := 727) (by decide +kernel), List.mem_of_getElem? (i := 728) (by decide +kernel)⟩
theorem lw_p23 : lw_okq (⟨"JudgeHalves$Planner", "playFrom", "(I)I"⟩, 12) := ⟨⟨by decide +kernel, by decide +kernel⟩, List.mem_of_getElem? (i := 193) (by decide +kernel), List.mem_of_getElem? (i := 761) (by decide +kernel), List.mem_of_getElem? (i := 762) (by decide +kernel)⟩
theorem lw_p24 : lw_okq (⟨"JudgeHalves$Planner", "outcome", "()I"⟩, 12) := ⟨⟨by decide +kernel, by decide +kernel⟩, List.mem_of_getElem? (i := 193) (by decide +kernel), List.mem_of_getElem? (i := 765) (by decide +kernel), List.mem_of_getElem? (i := 766) (by decide +kernel)⟩
theorem lw_p25 : lw_okq (⟨"JudgeHalves", "isToldRow", "(II)Z"⟩, 10) := ⟨⟨by decide +kernel, by decide +kernel⟩, List.mem_of_getElem? (i := 15) (by decide +kernel), List.mem_of_getElem? (i := 775) (by decide +kernel), List.mem_of_getElem? (i := 776) (by decide +kernel)⟩
theorem lw_p26 : lw_okq (⟨"JudgeHalves$Fitting", "suppose", "(III)V"⟩, 7) := ⟨⟨by decide +kernel, by decide +kernel⟩, List.mem_of_getElem? (i := 238) (by decide +kernel), List.mem_of_getElem? (i := 794) (by decide +kernel), List.mem_of_getElem? (i := 795) (by decide +kernel)⟩
theorem lw_p27 : lw_okq (⟨"JudgeHalves$Fitting", "fits", "()Z"⟩, 7) := ⟨⟨by decide +kernel, by decide +kernel⟩, List.mem_of_getElem? (i := 238) (by decide +kernel), List.mem_of_getElem? (i := 800) (by decide +kernel), List.mem_of_getElem? (i := 801) (by decide +kernel)⟩
theorem lw_p28 : lw_okq (⟨"JudgeHalves$Foresight", "reduce", "()V"⟩, 3) := ⟨⟨by decide +kernel, by decide +kernel⟩, List.mem_of_getElem? (i := 175) (by decide +kernel), List.mem_of_getElem? (i := 840) (by decide +kernel), List.mem_of_getElem? (i := 841) (by decide +kernel)⟩
theorem lw_p29 : lw_okq (⟨"JudgeHalves$Foresight", "actOnDraw", "(J)V"⟩, 3) := ⟨⟨by decide +kernel, by decide +kernel⟩, List.mem_of_getElem? (i := 175) (by decide +kernel), List.mem_of_getElem? (i := 863) (by decide +kernel), List.mem_of_getElem? (i := 864) (by decide +kernel)⟩
theorem lw_p30 : lw_okq (⟨"JudgeHalves$Asks", "answer", "(II)I"⟩, 6) := ⟨⟨by decide +kernel, by decide +kernel⟩, List.mem_of_getElem? (i := 268) (by decide +kernel), List.mem_of_getElem? (i := 903) (by decide +kernel), List.mem_of_getElem? (i := 904) (by decide +kernel)⟩
theorem lw_p31 : lw_okq (⟨"JudgeHalves$Asks", "bodyFor", "(I)I"⟩, 6) := ⟨⟨by decide +kernel, by decide +kernel⟩, List.mem_of_getElem? (i := 268) (by decide +kernel), List.mem_of_getElem? (i := 907) (by decide +kernel), List.mem_of_getElem? (i := 908) (by decide +kernel)⟩
def lw_privs_2 : List (MethodName × Nat) := [(⟨"JudgeHalves", "hasCircuit", "()Z"⟩, 10), (⟨"JudgeHalves$Circuit", "moveIn", "()V"⟩, 12), (⟨"JudgeHalves$Circuit", "liveBeside", "(IZ)V"⟩, 12), (⟨"JudgeHalves$Planner", "worthOfSending", "(III)I"⟩, 12), (⟨"JudgeHalves$Planner", "sendFrom", "(I)V"⟩, 12), (⟨"JudgeHalves$Planner", "weighSending", "()V"⟩, 12), (⟨"JudgeHalves$Planner", "nobodyWaitsWithout", "(LJudgeHalves$Circuit;II)Z"⟩, 12), (⟨"JudgeHalves$Planner", "playFrom", "(I)I"⟩, 12), (⟨"JudgeHalves$Planner", "outcome", "()I"⟩, 12), (⟨"JudgeHalves", "isToldRow", "(II)Z"⟩, 10), (⟨"JudgeHalves$Fitting", "suppose", "(III)V"⟩, 7), (⟨"JudgeHalves$Fitting", "fits", "()Z"⟩, 7), (⟨"JudgeHalves$Foresight", "reduce", "()V"⟩, 3), (⟨"JudgeHalves$Foresight", "actOnDraw", "(J)V"⟩, 3), (⟨"JudgeHalves$Asks", "answer", "(II)I"⟩, 6), (⟨"JudgeHalves$Asks", "bodyFor", "(I)I"⟩, 6)]
theorem lw_r2 : ∀ q ∈ lw_privs_2, lw_okq q := List.forall_mem_cons.mpr ⟨lw_p16, List.forall_mem_cons.mpr ⟨lw_p17, List.forall_mem_cons.mpr ⟨lw_p18, List.forall_mem_cons.mpr ⟨lw_p19, List.forall_mem_cons.mpr ⟨lw_p20, List.forall_mem_cons.mpr ⟨lw_p21, List.forall_mem_cons.mpr ⟨lw_p22, List.forall_mem_cons.mpr ⟨lw_p23, List.forall_mem_cons.mpr ⟨lw_p24, List.forall_mem_cons.mpr ⟨lw_p25, List.forall_mem_cons.mpr ⟨lw_p26, List.forall_mem_cons.mpr ⟨lw_p27, List.forall_mem_cons.mpr ⟨lw_p28, List.forall_mem_cons.mpr ⟨lw_p29, List.forall_mem_cons.mpr ⟨lw_p30, List.forall_mem_cons.mpr ⟨lw_p31, fun _ h => absurd h List.not_mem_nil⟩⟩⟩⟩⟩⟩⟩⟩⟩⟩⟩⟩⟩⟩⟩⟩
theorem lw_p32 : lw_okq (⟨"JudgeHalves$Asks", "run", "(II)I"⟩, 6) := ⟨⟨by decide +kernel, by decide +kernel⟩, List.mem_of_getElem? (i := 268) (by decide +kernel), List.mem_of_getElem? (i := 916) (by decide +kernel), List.mem_of_getElem? (i := 917) (by decide +kernel)⟩
theorem lw_p33 : lw_okq (⟨"JudgeHalves$Asks", "leave", "(I)V"⟩, 6) := ⟨⟨by decide +kernel, by decide +kernel⟩, List.mem_of_getElem? (i := 268) (by decide +kernel), List.mem_of_getElem? (i := 920) (by decide +kernel), List.mem_of_getElem? (i := 921) (by decide +kernel)⟩
theorem lw_p34 : lw_okq (⟨"JudgeHalvesModel", "finding", "(I)I"⟩, 26) := ⟨⟨by decide +kernel, by decide +kernel⟩, List.mem_of_getElem? (i := 950) (by decide +kernel), List.mem_of_getElem? (i := 1049) (by decide +kernel), List.mem_of_getElem? (i := 1050) (by decide +kernel)⟩
theorem lw_p35 : lw_okq (⟨"JudgeHalvesModel", "begin", "()V"⟩, 26) := ⟨⟨by decide +kernel, by decide +kernel⟩, List.mem_of_getElem? (i := 950) (by decide +kernel), List.mem_of_getElem? (i := 1080) (by decide +kernel), List.mem_of_getElem? (i := 1081) (by decide +kernel)⟩
theorem lw_p36 : lw_okq (⟨"JudgeHalvesModel", "nextToken", "()V"⟩, 26) := ⟨⟨by decide +kernel, by decide +kernel⟩, List.mem_of_getElem? (i := 950) (by decide +kernel), List.mem_of_getElem? (i := 1084) (by decide +kernel), List.mem_of_getElem? (i := 1085) (by decide +kernel)⟩
theorem lw_p37 : lw_okq (⟨"JudgeHalvesModel", "isLetter", "(I)Z"⟩, 26) := ⟨⟨by decide +kernel, by decide +kernel⟩, List.mem_of_getElem? (i := 950) (by decide +kernel), List.mem_of_getElem? (i := 1093) (by decide +kernel), List.mem_of_getElem? (i := 1094) (by decide +kernel)⟩
theorem lw_p38 : lw_okq (⟨"JudgeHalvesModel", "must", "(Z)V"⟩, 26) := ⟨⟨by decide +kernel, by decide +kernel⟩, List.mem_of_getElem? (i := 950) (by decide +kernel), List.mem_of_getElem? (i := 1097) (by decide +kernel), List.mem_of_getElem? (i := 1098) (by decide +kernel)⟩
theorem lw_p39 : lw_okq (⟨"JudgeHalvesModel", "bad", "(I)V"⟩, 26) := ⟨⟨by decide +kernel, by decide +kernel⟩, List.mem_of_getElem? (i := 950) (by decide +kernel), List.mem_of_getElem? (i := 1101) (by decide +kernel), List.mem_of_getElem? (i := 1102) (by decide +kernel)⟩
theorem lw_p40 : lw_okq (⟨"JudgeHalvesModel", "number", "(II)I"⟩, 26) := ⟨⟨by decide +kernel, by decide +kernel⟩, List.mem_of_getElem? (i := 950) (by decide +kernel), List.mem_of_getElem? (i := 1105) (by decide +kernel), List.mem_of_getElem? (i := 1106) (by decide +kernel)⟩
theorem lw_p41 : lw_okq (⟨"JudgeHalvesModel", "mustSign", "(I)V"⟩, 26) := ⟨⟨by decide +kernel, by decide +kernel⟩, List.mem_of_getElem? (i := 950) (by decide +kernel), List.mem_of_getElem? (i := 1109) (by decide +kernel), List.mem_of_getElem? (i := 1110) (by decide +kernel)⟩
theorem lw_p42 : lw_okq (⟨"JudgeHalvesModel", "readJudge", "()V"⟩, 26) := ⟨⟨by decide +kernel, by decide +kernel⟩, List.mem_of_getElem? (i := 950) (by decide +kernel), List.mem_of_getElem? (i := 1113) (by decide +kernel), List.mem_of_getElem? (i := 1114) (by decide +kernel)⟩
theorem lw_p43 : lw_okq (⟨"JudgeHalvesModel", "isSort", "()Z"⟩, 26) := ⟨⟨by decide +kernel, by decide +kernel⟩, List.mem_of_getElem? (i := 950) (by decide +kernel), List.mem_of_getElem? (i := 1117) (by decide +kernel), List.mem_of_getElem? (i := 1118) (by decide +kernel)⟩
theorem lw_p44 : lw_okq (⟨"JudgeHalvesModel", "readMan", "()V"⟩, 26) := ⟨⟨by decide +kernel, by decide +kernel⟩, List.mem_of_getElem? (i := 950) (by decide +kernel), List.mem_of_getElem? (i := 1124) (by decide +kernel), List.mem_of_getElem? (i := 1125) (by decide +kernel)⟩
theorem lw_p45 : lw_okq (⟨"JudgeHalvesModel", "failed", "()Z"⟩, 26) := ⟨⟨by decide +kernel, by decide +kernel⟩, List.mem_of_getElem? (i := 950) (by decide +kernel), List.mem_of_getElem? (i := 1128) (by decide +kernel), List.mem_of_getElem? (i := 1129) (by decide +kernel)⟩
theorem lw_p46 : lw_okq (⟨"JudgeHalvesModel", "isThere", "()Z"⟩, 26) := ⟨⟨by decide +kernel, by decide +kernel⟩, List.mem_of_getElem? (i := 950) (by decide +kernel), List.mem_of_getElem? (i := 1137) (by decide +kernel), List.mem_of_getElem? (i := 1138) (by decide +kernel)⟩
theorem lw_p47 : lw_okq (⟨"JudgeHalvesModel", "keep", "()V"⟩, 26) := ⟨⟨by decide +kernel, by decide +kernel⟩, List.mem_of_getElem? (i := 950) (by decide +kernel), List.mem_of_getElem? (i := 1143) (by decide +kernel), List.mem_of_getElem? (i := 1144) (by decide +kernel)⟩
def lw_privs_3 : List (MethodName × Nat) := [(⟨"JudgeHalves$Asks", "run", "(II)I"⟩, 6), (⟨"JudgeHalves$Asks", "leave", "(I)V"⟩, 6), (⟨"JudgeHalvesModel", "finding", "(I)I"⟩, 26), (⟨"JudgeHalvesModel", "begin", "()V"⟩, 26), (⟨"JudgeHalvesModel", "nextToken", "()V"⟩, 26), (⟨"JudgeHalvesModel", "isLetter", "(I)Z"⟩, 26), (⟨"JudgeHalvesModel", "must", "(Z)V"⟩, 26), (⟨"JudgeHalvesModel", "bad", "(I)V"⟩, 26), (⟨"JudgeHalvesModel", "number", "(II)I"⟩, 26), (⟨"JudgeHalvesModel", "mustSign", "(I)V"⟩, 26), (⟨"JudgeHalvesModel", "readJudge", "()V"⟩, 26), (⟨"JudgeHalvesModel", "isSort", "()Z"⟩, 26), (⟨"JudgeHalvesModel", "readMan", "()V"⟩, 26), (⟨"JudgeHalvesModel", "failed", "()Z"⟩, 26), (⟨"JudgeHalvesModel", "isThere", "()Z"⟩, 26), (⟨"JudgeHalvesModel", "keep", "()V"⟩, 26)]
theorem lw_r3 : ∀ q ∈ lw_privs_3, lw_okq q := List.forall_mem_cons.mpr ⟨lw_p32, List.forall_mem_cons.mpr ⟨lw_p33, List.forall_mem_cons.mpr ⟨lw_p34, List.forall_mem_cons.mpr ⟨lw_p35, List.forall_mem_cons.mpr ⟨lw_p36, List.forall_mem_cons.mpr ⟨lw_p37, List.forall_mem_cons.mpr ⟨lw_p38, List.forall_mem_cons.mpr ⟨lw_p39, List.forall_mem_cons.mpr ⟨lw_p40, List.forall_mem_cons.mpr ⟨lw_p41, List.forall_mem_cons.mpr ⟨lw_p42, List.forall_mem_cons.mpr ⟨lw_p43, List.forall_mem_cons.mpr ⟨lw_p44, List.forall_mem_cons.mpr ⟨lw_p45, List.forall_mem_cons.mpr ⟨lw_p46, List.forall_mem_cons.mpr ⟨lw_p47, fun _ h => absurd h List.not_mem_nil⟩⟩⟩⟩⟩⟩⟩⟩⟩⟩⟩⟩⟩⟩⟩⟩
theorem lw_p48 : lw_okq (⟨"JudgeHalvesModel", "isMan", "(I)Z"⟩, 26) := ⟨⟨by decide +kernel, by decide +kernel⟩, List.mem_of_getElem? (i := 950) (by decide +kernel), List.mem_of_getElem? (i := 1175) (by decide +kernel), List.mem_of_getElem? (i := 1176) (by decide +kernel)⟩
theorem lw_p49 : lw_okq (⟨"JudgeHalvesModel", "isJudge", "(I)Z"⟩, 26) := ⟨⟨by decide +kernel, by decide +kernel⟩, List.mem_of_getElem? (i := 950) (by decide +kernel), List.mem_of_getElem? (i := 1179) (by decide +kernel), List.mem_of_getElem? (i := 1180) (by decide +kernel)⟩
theorem lw_p50 : lw_okq (⟨"JudgeHalvesModel", "turned", "(III)I"⟩, 26) := ⟨⟨by decide +kernel, by decide +kernel⟩, List.mem_of_getElem? (i := 950) (by decide +kernel), List.mem_of_getElem? (i := 1192) (by decide +kernel), List.mem_of_getElem? (i := 1193) (by decide +kernel)⟩
theorem lw_p51 : lw_okq (⟨"JudgeHalvesModel", "layThen", "()V"⟩, 26) := ⟨⟨by decide +kernel, by decide +kernel⟩, List.mem_of_getElem? (i := 950) (by decide +kernel), List.mem_of_getElem? (i := 1230) (by decide +kernel), List.mem_of_getElem? (i := 1231) (by decide +kernel)⟩
theorem lw_p52 : lw_okq (⟨"JudgeHalvesModel", "dueTo", "(I)I"⟩, 26) := ⟨⟨by decide +kernel, by decide +kernel⟩, List.mem_of_getElem? (i := 950) (by decide +kernel), List.mem_of_getElem? (i := 1276) (by decide +kernel), List.mem_of_getElem? (i := 1277) (by decide +kernel)⟩
theorem lw_p53 : lw_okq (⟨"JudgeHalvesModel", "second", "(IIII)I"⟩, 26) := ⟨⟨by decide +kernel, by decide +kernel⟩, List.mem_of_getElem? (i := 950) (by decide +kernel), List.mem_of_getElem? (i := 1286) (by decide +kernel), List.mem_of_getElem? (i := 1287) (by decide +kernel)⟩
theorem lw_p54 : lw_okq (⟨"JudgeHalvesModel", "third", "(IIII)I"⟩, 26) := ⟨⟨by decide +kernel, by decide +kernel⟩, List.mem_of_getElem? (i := 950) (by decide +kernel), List.mem_of_getElem? (i := 1290) (by decide +kernel), List.mem_of_getElem? (i := 1291) (by decide +kernel)⟩
theorem lw_p55 : lw_okq (⟨"JudgeHalvesModel", "fourth", "(IIII)I"⟩, 26) := ⟨⟨by decide +kernel, by decide +kernel⟩, List.mem_of_getElem? (i := 950) (by decide +kernel), List.mem_of_getElem? (i := 1294) (by decide +kernel), List.mem_of_getElem? (i := 1295) (by decide +kernel)⟩
theorem lw_p56 : lw_okq (⟨"JudgeHalvesModel", "afterTurns", "(IIII)I"⟩, 26) := ⟨⟨by decide +kernel, by decide +kernel⟩, List.mem_of_getElem? (i := 950) (by decide +kernel), List.mem_of_getElem? (i := 1298) (by decide +kernel), List.mem_of_getElem? (i := 1299) (by decide +kernel)⟩
theorem lw_p57 : lw_okq (⟨"JudgeHalvesModel", "mayGive", "(II)Z"⟩, 26) := ⟨⟨by decide +kernel, by decide +kernel⟩, List.mem_of_getElem? (i := 950) (by decide +kernel), List.mem_of_getElem? (i := 1302) (by decide +kernel), List.mem_of_getElem? (i := 1303) (by decide +kernel)⟩
theorem lw_p58 : lw_okq (⟨"JudgeHalvesModel", "rowFound", "(III)I"⟩, 26) := ⟨⟨by decide +kernel, by decide +kernel⟩, List.mem_of_getElem? (i := 950) (by decide +kernel), List.mem_of_getElem? (i := 1314) (by decide +kernel), List.mem_of_getElem? (i := 1315) (by decide +kernel)⟩
theorem lw_p59 : lw_okq (⟨"JudgeHalvesModel", "isSo", "(III)Z"⟩, 26) := ⟨⟨by decide +kernel, by decide +kernel⟩, List.mem_of_getElem? (i := 950) (by decide +kernel), List.mem_of_getElem? (i := 1318) (by decide +kernel), List.mem_of_getElem? (i := 1319) (by decide +kernel)⟩
theorem lw_p60 : lw_okq (⟨"JudgeHalvesModel", "sizeOf", "(I)I"⟩, 26) := ⟨⟨by decide +kernel, by decide +kernel⟩, List.mem_of_getElem? (i := 950) (by decide +kernel), List.mem_of_getElem? (i := 1367) (by decide +kernel), List.mem_of_getElem? (i := 1368) (by decide +kernel)⟩
theorem lw_p61 : lw_okq (⟨"JudgeHalvesModel", "wrongedSize", "(I)I"⟩, 26) := ⟨⟨by decide +kernel, by decide +kernel⟩, List.mem_of_getElem? (i := 950) (by decide +kernel), List.mem_of_getElem? (i := 1371) (by decide +kernel), List.mem_of_getElem? (i := 1372) (by decide +kernel)⟩
theorem lw_p62 : lw_okq (⟨"JudgeHalvesModel", "began", "(I)V"⟩, 26) := ⟨⟨by decide +kernel, by decide +kernel⟩, List.mem_of_getElem? (i := 950) (by decide +kernel), List.mem_of_getElem? (i := 1375) (by decide +kernel), List.mem_of_getElem? (i := 1376) (by decide +kernel)⟩
theorem lw_p63 : lw_okq (⟨"JudgeHalvesModel", "plainSize", "(I)I"⟩, 26) := ⟨⟨by decide +kernel, by decide +kernel⟩, List.mem_of_getElem? (i := 950) (by decide +kernel), List.mem_of_getElem? (i := 1379) (by decide +kernel), List.mem_of_getElem? (i := 1380) (by decide +kernel)⟩
def lw_privs_4 : List (MethodName × Nat) := [(⟨"JudgeHalvesModel", "isMan", "(I)Z"⟩, 26), (⟨"JudgeHalvesModel", "isJudge", "(I)Z"⟩, 26), (⟨"JudgeHalvesModel", "turned", "(III)I"⟩, 26), (⟨"JudgeHalvesModel", "layThen", "()V"⟩, 26), (⟨"JudgeHalvesModel", "dueTo", "(I)I"⟩, 26), (⟨"JudgeHalvesModel", "second", "(IIII)I"⟩, 26), (⟨"JudgeHalvesModel", "third", "(IIII)I"⟩, 26), (⟨"JudgeHalvesModel", "fourth", "(IIII)I"⟩, 26), (⟨"JudgeHalvesModel", "afterTurns", "(IIII)I"⟩, 26), (⟨"JudgeHalvesModel", "mayGive", "(II)Z"⟩, 26), (⟨"JudgeHalvesModel", "rowFound", "(III)I"⟩, 26), (⟨"JudgeHalvesModel", "isSo", "(III)Z"⟩, 26), (⟨"JudgeHalvesModel", "sizeOf", "(I)I"⟩, 26), (⟨"JudgeHalvesModel", "wrongedSize", "(I)I"⟩, 26), (⟨"JudgeHalvesModel", "began", "(I)V"⟩, 26), (⟨"JudgeHalvesModel", "plainSize", "(I)I"⟩, 26)]
theorem lw_r4 : ∀ q ∈ lw_privs_4, lw_okq q := List.forall_mem_cons.mpr ⟨lw_p48, List.forall_mem_cons.mpr ⟨lw_p49, List.forall_mem_cons.mpr ⟨lw_p50, List.forall_mem_cons.mpr ⟨lw_p51, List.forall_mem_cons.mpr ⟨lw_p52, List.forall_mem_cons.mpr ⟨lw_p53, List.forall_mem_cons.mpr ⟨lw_p54, List.forall_mem_cons.mpr ⟨lw_p55, List.forall_mem_cons.mpr ⟨lw_p56, List.forall_mem_cons.mpr ⟨lw_p57, List.forall_mem_cons.mpr ⟨lw_p58, List.forall_mem_cons.mpr ⟨lw_p59, List.forall_mem_cons.mpr ⟨lw_p60, List.forall_mem_cons.mpr ⟨lw_p61, List.forall_mem_cons.mpr ⟨lw_p62, List.forall_mem_cons.mpr ⟨lw_p63, fun _ h => absurd h List.not_mem_nil⟩⟩⟩⟩⟩⟩⟩⟩⟩⟩⟩⟩⟩⟩⟩⟩
theorem lw_p64 : lw_okq (⟨"JudgeHalvesModel", "markOf", "(I)I"⟩, 26) := ⟨⟨by decide +kernel, by decide +kernel⟩, List.mem_of_getElem? (i := 950) (by decide +kernel), List.mem_of_getElem? (i := 1383) (by decide +kernel), List.mem_of_getElem? (i := 1384) (by decide +kernel)⟩
def lw_privs_5 : List (MethodName × Nat) := [(⟨"JudgeHalvesModel", "markOf", "(I)I"⟩, 26)]
theorem lw_r5 : ∀ q ∈ lw_privs_5, lw_okq q := List.forall_mem_cons.mpr ⟨lw_p64, fun _ h => absurd h List.not_mem_nil⟩
def lw_privs : List (MethodName × Nat) := lw_privs_1 ++ (lw_privs_2 ++ (lw_privs_3 ++ (lw_privs_4 ++ (lw_privs_5))))
def lw_tbl : List Cond := k2_sels lw_privs ++ tables_1
theorem lw_privs_ok : ∀ q ∈ lw_privs, lw_okq q := by
  show ∀ q ∈ lw_privs_1 ++ (lw_privs_2 ++ (lw_privs_3 ++ (lw_privs_4 ++ (lw_privs_5)))), lw_okq q
  exact List.forall_mem_append.mpr ⟨lw_r1, List.forall_mem_append.mpr ⟨lw_r2, List.forall_mem_append.mpr ⟨lw_r3, List.forall_mem_append.mpr ⟨lw_r4, lw_r5⟩⟩⟩⟩
end
section
/-- the kit's row for new T[n][m] speaks of this word, and the kit has it not -/
def va_AOA (ty : FieldType) (U : State) : Prop := (Cond.arrayOver (.array ty)).before #[] U = true
theorem va_AOA.use {ty : FieldType} {A : Array Value} {U : State} (h : va_AOA ty U) : (Cond.arrayOver (.array ty)).before A U = true := h
/-! ===== BEGIN words of one list among another's, by their places ===== -/
theorem goodIn_r {big : List Cond} (ws : List Cond) (ps : List Nat) (hp : ws = ps.filterMap (fun i => big[i]?)) (h : ws.all goodWord = true) : GoodIn big ws := by
  intro w hw
  have h1 := List.all_eq_true.mp h w hw
  rw [hp] at hw
  obtain ⟨i, -, hi⟩ := List.mem_filterMap.mp hw
  have hm : w ∈ big := by first | exact List.mem_of_getElem? hi | exact List.getElem?_mem hi
  exact ⟨hm, good_of_word h1⟩
theorem goodIn_app {big a b : List Cond} (ha : GoodIn big a) (hb : GoodIn big b) : GoodIn big (a ++ b) := fun w h => (List.mem_append.mp h).elim (ha w) (hb w)
theorem goodIn_ca {big a b : List Cond} {c : Cond} (ha : GoodIn big (c :: a)) (hb : GoodIn big b) : GoodIn big (c :: (a ++ b)) := fun w h => (List.mem_cons.mp h).elim (fun e => ha w (List.mem_cons.mpr (Or.inl e))) (fun h => (List.mem_append.mp h).elim (fun h => ha w (List.mem_cons.mpr (Or.inr h))) (hb w))
theorem goodIn_sub {big ws : List Cond} (hm : ∀ w ∈ ws, w ∈ big) (h : ws.all goodWord = true) : GoodIn big ws := fun w hw => ⟨hm w hw, good_of_word (List.all_eq_true.mp h w hw)⟩
/-! ===== END ===== -/

/-! ===== BEGIN new T[n][m]: the outer array a place, the inner ones among the pooled ===== -/
/-- f, but v at every address of l -/
def vr_up {α : Type} (f : Nat → α) (l : List Nat) (v : α) : Nat → α := fun a => if a ∈ l then v else f a
theorem vr_up_in {α : Type} {f : Nat → α} {l : List Nat} {v : α} {a : Nat} (h : a ∈ l) : vr_up f l v a = v := if_pos h
theorem vr_up_ne {α : Type} {f : Nat → α} {l : List Nat} {v : α} {a : Nat} (h : a ∉ l) : vr_up f l v a = f a := if_neg h
theorem vr_rows {L l : List Nat} {f : Nat → va_E} {e : va_E} (h : ∀ a, a ∈ l → a ∉ L) : va_pl L f ++ l.map (fun a => (a, e)) = va_pl (L ++ l) (vr_up f l e) := by
  unfold va_pl
  rw [List.map_append]
  congr 1
  · apply List.map_congr_left
    intro a ha
    rw [vr_up_ne (fun q => h a q ha)]
  · apply List.map_congr_left
    intro a ha
    rw [vr_up_in ha]
theorem vr_lay {X rows : va_W} {x : Nat × va_E} {pl : va_W} {D : va_G} {cl : List vw_C} {H : Heap} (hP : va_P D cl (((X ++ pl) ++ [x]) ++ rows) H) : va_P D cl ((X ++ [x]) ++ (pl ++ rows)) H := by
  rw [List.append_assoc (X ++ pl)] at hP
  have h := va_P.swap hP
  rw [← List.append_assoc X] at h
  have h2 := va_P.swap h
  rw [List.append_assoc (X ++ [x])] at h2
  exact h2
theorem vr_layD {X rows : va_W} {x : Nat × va_E} {pl : va_W} {A : Nat → Prop} (hD : va_D A (((X ++ pl) ++ [x]) ++ rows)) : va_D A ((X ++ [x]) ++ (pl ++ rows)) := by
  rw [List.append_assoc (X ++ pl)] at hD
  have h := va_D.swap hD
  rw [← List.append_assoc X] at h
  have h2 := va_D.swap h
  rw [List.append_assoc (X ++ [x])] at h2
  exact h2
theorem vr_outer (c : ClassId) (N h0 : Nat) : ∀ i : Nat, Jvm.Free.Multi.outerC c N h0 i = arrV c N (fun j => va_rf (if j < i then some (h0 + 1 + j) else none))
  | 0 => by
    show ({ cls := c, slots := Array.replicate N .null, vm := .none } : Cell) = _
    rw [arrV_new]
    refine congrArg (arrV c N) (funext fun j => ?_)
    simp [va_rf]
  | i + 1 => by
    show (Jvm.Free.Multi.outerC c N h0 i).setSlot i (.ref (h0 + 1 + i)) = _
    rw [vr_outer c N h0 i, arrV_store]
    refine congrArg (arrV c N) (funext fun j => ?_)
    by_cases e : j = i
    · subst e
      simp [updV, va_rf]
    · by_cases h : j < i
      · simp [updV, e, h, Nat.lt_succ_of_lt h]
      · simp [updV, e, h, show ¬ j < i + 1 by omega]
section VGM
variable {p : Program} {l : Launch} {e : Env} {R : Room} {s : State} {m : MethodId} {args : Array Value} {below : List Frame} {meth : Method} {c : Code} {H : Heap} {locs : List Loc} {cells slots : Nat} {Q : State → Prop}
variable {cc : ByteArray} {pc : Nat} {ls : Array Slot} {rest : List Value} {D : va_G} {cl : List vw_C} {A : Nat → Prop} {a : Nat} {tys : List (ClassId × FieldType)} {ws : va_W} {H0 : Heap}
theorem va_mna {X : va_W} {L : List Nat} {f : Nat → va_E} {cc : ByteArray} (hexec : p.tables.exec = Jvm.exec) (hb : c.code = cc) {own : String} {index : Nat} {ty : FieldType} {cy : ClassId} (hown : s.vm.findClass own = some m.cls) (hclink : (Cond.classLink own index ("[" ++ (FieldType.array ty).toString)).before args s = true) (hover : va_AOA ty s) (harr : (Cond.arrayClass ty).before args s = true) (hcy : s.vm.findClass (FieldType.array ty).toString = some cy)
    (hK : va_K D cl tys s) (hP : va_P D cl (X ++ va_pl L f) H) (hD : va_D A (X ++ va_pl L f)) (hS : va_S A H0 H locs) (hA : ∀ q, H0.size ≤ q → A q) {n k : Int32} {N' K' : Nat} {z : vp_A} (hn : ¬ n < 0) (hk : ¬ k < 0) (hN : n.toNatClampNeg = N') (hM : k.toNatClampNeg = K')
    (hb1 : N' * 4 ≤ 536870912) (hb2 : K' * componentBytes ty ≤ 536870912) (hb3 : K' ≤ 536870912) (hdf : fits ty (defaultValue ty) = true) (hdd : (defaultValue ty).isDefault = true) (hcells : cells + (1 + N') ≤ R.cells) (hslots : slots + (N' + N' * K') ≤ R.slots) (hz : ∀ c : ClassId, Jvm.Free.Multi.innerC c K' (defaultValue ty) = vp_cell c z) (hdg : decode cc pc = .ok (.multianewarray index 2, 4))
    (kk : ∀ (q : Nat) (r : Nat → Nat) (cA : ClassId) (H1 : Heap), (∀ i j : Nat, i < N' → j < N' → r i = r j → i = j) → (∀ i : Nat, i < N' → r i ∉ L) → va_K D cl (tys ++ [(cA, .array ty)]) s →
      va_P D cl ((X ++ [(q, .inl (cA, N', .inr (.inr (.inr (.inr (fun i => if i < N' then some (r i) else none))))))]) ++ va_pl (L ++ (List.range N').map r) (vr_up f ((List.range N').map r) (.inl (cy, z)))) H1 → va_D A ((X ++ [(q, .inl (cA, N', .inr (.inr (.inr (.inr (fun i => if i < N' then some (r i) else none))))))]) ++ va_pl (L ++ (List.range N').map r) (vr_up f ((List.range N').map r) (.inl (cy, z)))) → va_S A H0 H1 locs →
      W p l e R s m args below meth c H1 locs (cells + 1 + N') (slots + N' + N' * K') Q (F0 m (pc + 4) ls (.ref q :: rest))) : W p l e R s m args below meth c H locs cells slots Q (F0 m pc ls (.int k :: .int n :: rest)) := by
  subst hN
  subst hM
  intro T hT Xs
  obtain ⟨vm₁, cA, comp, -, fA, fC, hO, -, X', step⟩ := Xs.multianewarray2F hexec hown hclink (va_AOA.use hover) harr (g := F0 m pc ls (.int k :: .int n :: rest)) rfl (by rw [hb]; exact hdg) rfl hn hk hb1 hb2 hb3 hdf hdd hcells hslots
  have ec : some cy = some comp := hcy.symm.trans fC
  cases ec
  generalize hF : Jvm.Free.Multi.fill (T.setVm vm₁) cA cy n.toNatClampNeg k.toNatClampNeg (defaultValue ty) n.toNatClampNeg = F at X' step
  have hTh : (T.setVm vm₁).heap = H := hT
  obtain ⟨f1, f2, -, -⟩ := Jvm.Free.Multi.fill_facts (T.setVm vm₁) cA cy n.toNatClampNeg k.toNatClampNeg (defaultValue ty) n.toNatClampNeg
  rw [hF, hTh] at f1 f2
  have hold : ∀ x : Nat, x < H.size → F.heap[x]? = H[x]? := fun x hx => by
    have := Jvm.Free.Multi.fill_old (T.setVm vm₁) cA cy n.toNatClampNeg k.toNatClampNeg (defaultValue ty) (a := x) (by rw [hTh]; exact hx) n.toNatClampNeg
    rw [hF, hTh] at this
    exact this
  have hrow : ∀ j : Nat, j < n.toNatClampNeg → F.heap[H.size + 1 + j]? = some (vp_cell cy z) := fun j hj => by
    have := Jvm.Free.Multi.fill_inner (T.setVm vm₁) cA cy n.toNatClampNeg k.toNatClampNeg (defaultValue ty) n.toNatClampNeg j hj
    rw [hF, hTh, hz] at this
    exact this
  have hout : Jvm.Free.Multi.outerC cA n.toNatClampNeg H.size n.toNatClampNeg = vp_cell cA (n.toNatClampNeg, .inr (.inr (.inr (.inr (fun i => if i < n.toNatClampNeg then some (H.size + 1 + i) else none))))) := by
    rw [vp_cell_q]
    exact vr_outer cA n.toNatClampNeg H.size n.toNatClampNeg
  rw [hout] at f2
  have hlt : ∀ a, a ∈ L → a < H.size := fun a ha => by
    obtain ⟨k9, hk9⟩ := va_pl_get (X := X) (f := f) ha
    exact (hP k9 _ hk9).lt
  have hnl : ∀ i : Nat, i < n.toNatClampNeg → H.size + 1 + i ∉ L := fun i _ h => by
    have := hlt _ h
    omega
  have hnm : ∀ a, a ∈ (List.range n.toNatClampNeg).map (fun i => H.size + 1 + i) → a ∉ L := fun a ha h => by
    obtain ⟨i, -, rfl⟩ := List.mem_map.mp ha
    have := hlt _ h
    omega
  have hP0 : va_P D cl (X ++ va_pl L f) F.heap := hP.kept (fun k9 x hx => hold x.1 ((hP k9 x hx).lt))
  have hP1 : va_P D cl ((X ++ va_pl L f) ++ [(H.size, .inl (cA, n.toNatClampNeg, .inr (.inr (.inr (.inr (fun i => if i < n.toNatClampNeg then some (H.size + 1 + i) else none))))))]) F.heap := hP0.app (fun k9 x hx => by
    have h0 : k9 < 1 := (List.getElem?_eq_some_iff.mp hx).1
    rw [show k9 = 0 by omega] at hx
    cases hx
    exact f2)
  have hP2 : va_P D cl (((X ++ va_pl L f) ++ [(H.size, .inl (cA, n.toNatClampNeg, .inr (.inr (.inr (.inr (fun i => if i < n.toNatClampNeg then some (H.size + 1 + i) else none))))))]) ++ ((List.range n.toNatClampNeg).map (fun i => H.size + 1 + i)).map (fun a => (a, .inl (cy, z)))) F.heap := hP1.app (fun k9 x hx => by
    obtain ⟨a, ha, rfl⟩ := List.mem_map.mp (List.mem_of_getElem? hx)
    obtain ⟨i, hi, rfl⟩ := List.mem_map.mp ha
    exact hrow i (List.mem_range.mp hi))
  have hD2 : va_D A (((X ++ va_pl L f) ++ [(H.size, .inl (cA, n.toNatClampNeg, .inr (.inr (.inr (.inr (fun i => if i < n.toNatClampNeg then some (H.size + 1 + i) else none))))))]) ++ ((List.range n.toNatClampNeg).map (fun i => H.size + 1 + i)).map (fun a => (a, .inl (cy, z)))) := by
    have hD1 := hD.push (e := .inl (cA, n.toNatClampNeg, .inr (.inr (.inr (.inr (fun i => if i < n.toNatClampNeg then some (H.size + 1 + i) else none)))))) hP rfl (hA _ hS.1)
    generalize hW1 : (X ++ va_pl L f) ++ [(H.size, .inl (cA, n.toNatClampNeg, .inr (.inr (.inr (.inr (fun i => if i < n.toNatClampNeg then some (H.size + 1 + i) else none))))))] = W1 at hD1 hP1 ⊢
    have hle : ∀ (k9 : Nat) (x : Nat × va_E), W1[k9]? = some x → x.1 ≤ H.size := fun k9 x hx => by
      rw [← hW1] at hx
      by_cases hl : k9 < (X ++ va_pl L f).length
      · rw [List.getElem?_append_left hl] at hx
        exact Nat.le_of_lt ((hP k9 x hx).lt)
      · rw [List.getElem?_append_right (by omega)] at hx
        have h0 : k9 - (X ++ va_pl L f).length < 1 := (List.getElem?_eq_some_iff.mp hx).1
        rw [show k9 - (X ++ va_pl L f).length = 0 by omega] at hx
        cases hx
        exact Nat.le_refl _
    have hr : ∀ (k9 : Nat) (x : Nat × va_E), (((List.range n.toNatClampNeg).map (fun i => H.size + 1 + i)).map (fun a => ((a, .inl (cy, z)) : Nat × va_E)))[k9]? = some x → x.1 = H.size + 1 + k9 := fun k9 x hx => by
      rw [List.getElem?_map, List.getElem?_map] at hx
      by_cases h9 : k9 < n.toNatClampNeg
      · rw [List.getElem?_range h9] at hx
        cases hx
        rfl
      · have hn0 : (List.range n.toNatClampNeg)[k9]? = none := List.getElem?_eq_none (by rw [List.length_range]; omega)
        rw [hn0] at hx
        cases hx
    refine ⟨fun i j x y hi hj hxy => ?_, fun k9 x hx => ?_⟩
    · by_cases h1 : i < W1.length <;> by_cases h2 : j < W1.length
      · rw [List.getElem?_append_left h1] at hi
        rw [List.getElem?_append_left h2] at hj
        exact hD1.1 i j x y hi hj hxy
      · rw [List.getElem?_append_left h1] at hi
        rw [List.getElem?_append_right (by omega)] at hj
        have := hle _ _ hi
        have := hr _ _ hj
        omega
      · rw [List.getElem?_append_right (by omega)] at hi
        rw [List.getElem?_append_left h2] at hj
        have := hle _ _ hj
        have := hr _ _ hi
        omega
      · rw [List.getElem?_append_right (by omega)] at hi hj
        have := hr _ _ hi
        have := hr _ _ hj
        omega
    · by_cases h1 : k9 < W1.length
      · rw [List.getElem?_append_left h1] at hx
        exact hD1.2 k9 x hx
      · rw [List.getElem?_append_right (by omega)] at hx
        have := hr _ _ hx
        exact hA _ (by have := hS.1; omega)
  have hAr : ArrOfT s cA (.array ty) := fun N9 z9 => by
    obtain ⟨-, k9, hk9, cm9, hkk9⟩ := (hO 0 0 0).1
    exact ⟨(fun q hq => by cases hq), k9, hk9, cm9, hkk9⟩
  have hK2 : va_K D cl (tys ++ [(cA, .array ty)]) s := ⟨hK.1, fun k9 x hx => by
    by_cases hl : k9 < tys.length
    · rw [List.getElem?_append_left hl] at hx
      exact hK.2 k9 x hx
    · rw [List.getElem?_append_right (by omega)] at hx
      have h0 : k9 - tys.length < 1 := (List.getElem?_eq_some_iff.mp hx).1
      rw [show k9 - tys.length = 0 by omega] at hx
      cases hx
      exact ⟨hAr, fA⟩⟩
  obtain ⟨t, a1, b1⟩ := kk H.size (fun i => H.size + 1 + i) cA F.heap (fun i j _ _ h => by have h9 : H.size + 1 + i = H.size + 1 + j := h; omega) hnl hK2 (by rw [← vr_rows hnm]; exact vr_lay hP2) (by rw [← vr_rows hnm]; exact vr_layD hD2) ⟨by rw [f1]; have := hS.1; omega, fun x h1 h2 => (hold x (Nat.lt_of_lt_of_le h1 hS.1)).trans (hS.2.1 x h1 h2), hS.2.2⟩ F rfl X'
  refine ⟨t, step t ?_, b1⟩
  have e : T.heap.size = H.size := by rw [hT]
  rw [e]
  exact a1
end VGM
/-! ===== END ===== -/

/-! ===== BEGIN printed: names, fields, word lists, decode rows ===== -/
def RX0 : String := "JudgeHalves$Asks"
def TX0 : u_T := fun k => match k with
  | 0 => ("JudgeHalves$Asks", "trace", "[I", true)
  | 1 => ("JudgeHalves$Asks", "length", "I", false)
  | 2 => ("JudgeHalves$Asks", "number", "I", false)
  | 3 => ("JudgeHalves$Asks", "kind", "I", false)
  | 4 => ("JudgeHalves$Asks", "left", "I", false)
  | _ => ("JudgeHalves$Asks", "trust", "I", false)
def tyX0 : Nat → FieldType := fun k => match k with
  | 0 => .array .int
  | 1 => .int
  | 2 => .int
  | 3 => .int
  | 4 => .int
  | _ => .int
abbrev wsX00 : List Cond := u_ws RX0 TX0 6
theorem nmX0 : ∀ a, a < 6 → ∀ b, b < 6 → a ≠ b → (TX0 a).2.1 ≠ (TX0 b).2.1 := by decide +kernel
theorem tyX0_ok : ∀ k, k < 6 → parseFieldDescriptor (TX0 k).2.2.1 = some (tyX0 k) := by decide +kernel
abbrev cX0_init : ByteArray := prog_2_method_1_code
def yX0_init : MethodName := ⟨RX0, "<init>", "()V"⟩
abbrev cX0_askAnew : ByteArray := prog_2_method_2_code
def yX0_askAnew : MethodName := ⟨RX0, "askAnew", "(LJudgeHalves$Circuit;II)I"⟩
abbrev cX0_traced : ByteArray := prog_2_method_3_code
def yX0_traced : MethodName := ⟨RX0, "traced", "(I)I"⟩
abbrev cX0_answer : ByteArray := prog_2_method_4_code
def yX0_answer : MethodName := ⟨RX0, "answer", "(II)I"⟩
abbrev cX0_bodyFor : ByteArray := prog_2_method_5_code
def yX0_bodyFor : MethodName := ⟨RX0, "bodyFor", "(I)I"⟩
abbrev cX0_run : ByteArray := prog_2_method_6_code
def yX0_run : MethodName := ⟨RX0, "run", "(II)I"⟩
abbrev cX0_leave : ByteArray := prog_2_method_7_code
def yX0_leave : MethodName := ⟨RX0, "leave", "(I)V"⟩
def RX1 : String := "JudgeHalves$Circuit"
def TX1 : u_T := fun k => match k with
  | 0 => ("JudgeHalves$Circuit", "judges", "I", false)
  | 1 => ("JudgeHalves$Circuit", "men", "I", false)
  | 2 => ("JudgeHalves$Circuit", "beans", "I", false)
  | 3 => ("JudgeHalves$Circuit", "like", "I", false)
  | 4 => ("JudgeHalves$Circuit", "year", "I", false)
  | 5 => ("JudgeHalves$Circuit", "severe", "[I", true)
  | 6 => ("JudgeHalves$Circuit", "open", "[I", true)
  | 7 => ("JudgeHalves$Circuit", "kind", "[I", true)
  | 8 => ("JudgeHalves$Circuit", "judgeOf", "[I", true)
  | 9 => ("JudgeHalves$Circuit", "how", "[I", true)
  | 10 => ("JudgeHalves$Circuit", "left", "[I", true)
  | _ => ("JudgeHalves$Circuit", "trust", "[I", true)
def tyX1 : Nat → FieldType := fun k => match k with
  | 0 => .int
  | 1 => .int
  | 2 => .int
  | 3 => .int
  | 4 => .int
  | 5 => .array .int
  | 6 => .array .int
  | 7 => .array .int
  | 8 => .array .int
  | 9 => .array .int
  | 10 => .array .int
  | _ => .array .int
abbrev wsX10 : List Cond := u_ws RX1 TX1 12
theorem nmX1 : ∀ a, a < 12 → ∀ b, b < 12 → a ≠ b → (TX1 a).2.1 ≠ (TX1 b).2.1 := by decide +kernel
theorem tyX1_ok : ∀ k, k < 12 → parseFieldDescriptor (TX1 k).2.2.1 = some (tyX1 k) := by decide +kernel
abbrev cX1_init : ByteArray := prog_3_method_1_code
def yX1_init : MethodName := ⟨RX1, "<init>", "()V"⟩
abbrev cX1_takeFrom : ByteArray := prog_3_method_2_code
def yX1_takeFrom : MethodName := ⟨RX1, "takeFrom", "(LJudgeHalves$Circuit;)V"⟩
abbrev cX1_begin : ByteArray := prog_3_method_3_code
def yX1_begin : MethodName := ⟨RX1, "begin", "(II)V"⟩
abbrev cX1_addJudge : ByteArray := prog_3_method_4_code
def yX1_addJudge : MethodName := ⟨RX1, "addJudge", "(II)V"⟩
abbrev cX1_addMan : ByteArray := prog_3_method_5_code
def yX1_addMan : MethodName := ⟨RX1, "addMan", "(III)V"⟩
abbrev cX1_isMan : ByteArray := prog_3_method_6_code
def yX1_isMan : MethodName := ⟨RX1, "isMan", "(I)Z"⟩
abbrev cX1_isJudge : ByteArray := prog_3_method_7_code
def yX1_isJudge : MethodName := ⟨RX1, "isJudge", "(I)Z"⟩
abbrev cX1_isServing : ByteArray := prog_3_method_8_code
def yX1_isServing : MethodName := ⟨RX1, "isServing", "(I)Z"⟩
abbrev cX1_isHoused : ByteArray := prog_3_method_9_code
def yX1_isHoused : MethodName := ⟨RX1, "isHoused", "(I)Z"⟩
abbrev cX1_passYears : ByteArray := prog_3_method_10_code
def yX1_passYears : MethodName := ⟨RX1, "passYears", "(II)V"⟩
abbrev cX1_moveIn : ByteArray := prog_3_method_11_code
def yX1_moveIn : MethodName := ⟨RX1, "moveIn", "()V"⟩
abbrev cX1_liveBeside : ByteArray := prog_3_method_12_code
def yX1_liveBeside : MethodName := ⟨RX1, "liveBeside", "(IZ)V"⟩
abbrev cX1_growthOf : ByteArray := prog_3_method_13_code
def yX1_growthOf : MethodName := ⟨RX1, "growthOf", "(I)I"⟩
abbrev cX1_tryAgain : ByteArray := prog_3_method_14_code
def yX1_tryAgain : MethodName := ⟨RX1, "tryAgain", "(III)V"⟩
abbrev cX1_letOff : ByteArray := prog_3_method_15_code
def yX1_letOff : MethodName := ⟨RX1, "letOff", "(I)V"⟩
abbrev cX1_whoAre : ByteArray := prog_3_method_16_code
def yX1_whoAre : MethodName := ⟨RX1, "whoAre", "(I)I"⟩
abbrev cX1_neighbourOf : ByteArray := prog_3_method_17_code
def yX1_neighbourOf : MethodName := ⟨RX1, "neighbourOf", "(I)I"⟩
abbrev cX1_waitersFor : ByteArray := prog_3_method_18_code
def yX1_waitersFor : MethodName := ⟨RX1, "waitersFor", "(I)I"⟩
abbrev cX1_trustOfAll : ByteArray := prog_3_method_19_code
def yX1_trustOfAll : MethodName := ⟨RX1, "trustOfAll", "()I"⟩
abbrev cX1_trustTowards : ByteArray := prog_3_method_20_code
def yX1_trustTowards : MethodName := ⟨RX1, "trustTowards", "(I)I"⟩
abbrev cX1_doneWith : ByteArray := prog_3_method_21_code
def yX1_doneWith : MethodName := ⟨RX1, "doneWith", "(I)I"⟩
abbrev cX1_closestTo : ByteArray := prog_3_method_22_code
def yX1_closestTo : MethodName := ⟨RX1, "closestTo", "(I)I"⟩
abbrev cX1_beansFor : ByteArray := prog_3_method_23_code
def yX1_beansFor : MethodName := ⟨RX1, "beansFor", "(II)I"⟩
def RX2 : String := "JudgeHalves$Fitting"
def TX2 : u_T := fun k => match k with
  | 0 => ("JudgeHalves$Fitting", "trial", "LJudgeHalves$Circuit;", true)
  | 1 => ("JudgeHalves$Fitting", "told", "[I", true)
  | 2 => ("JudgeHalves$Fitting", "toldYears", "I", false)
  | 3 => ("JudgeHalves$Fitting", "toldMan", "I", false)
  | 4 => ("JudgeHalves$Fitting", "bits", "I", false)
  | 5 => ("JudgeHalves$Fitting", "howMany", "I", false)
  | _ => ("JudgeHalves$Fitting", "least", "I", false)
def tyX2 : Nat → FieldType := fun k => match k with
  | 0 => .object "JudgeHalves$Circuit"
  | 1 => .array .int
  | 2 => .int
  | 3 => .int
  | 4 => .int
  | 5 => .int
  | _ => .int
abbrev wsX20 : List Cond := u_ws RX2 TX2 7
theorem nmX2 : ∀ a, a < 7 → ∀ b, b < 7 → a ≠ b → (TX2 a).2.1 ≠ (TX2 b).2.1 := by decide +kernel
theorem tyX2_ok : ∀ k, k < 7 → parseFieldDescriptor (TX2 k).2.2.1 = some (tyX2 k) := by decide +kernel
abbrev cX2_init : ByteArray := prog_4_method_1_code
def yX2_init : MethodName := ⟨RX2, "<init>", "()V"⟩
abbrev cX2_hear : ByteArray := prog_4_method_2_code
def yX2_hear : MethodName := ⟨RX2, "hear", "(ILJudgeHalves$Rows;III)V"⟩
abbrev cX2_tryAll : ByteArray := prog_4_method_3_code
def yX2_tryAll : MethodName := ⟨RX2, "tryAll", "(LJudgeHalves$Circuit;IIII)V"⟩
abbrev cX2_suppose : ByteArray := prog_4_method_4_code
def yX2_suppose : MethodName := ⟨RX2, "suppose", "(III)V"⟩
abbrev cX2_fits : ByteArray := prog_4_method_5_code
def yX2_fits : MethodName := ⟨RX2, "fits", "()Z"⟩
abbrev cX2_bits : ByteArray := prog_4_method_6_code
def yX2_bits : MethodName := ⟨RX2, "bits", "()I"⟩
abbrev cX2_howMany : ByteArray := prog_4_method_7_code
def yX2_howMany : MethodName := ⟨RX2, "howMany", "()I"⟩
abbrev cX2_least : ByteArray := prog_4_method_8_code
def yX2_least : MethodName := ⟨RX2, "least", "()I"⟩
def RX3 : String := "JudgeHalves$Foresight"
def TX3 : u_T := fun k => match k with
  | 0 => ("JudgeHalves$Foresight", "trial", "LJudgeHalves$Circuit;", true)
  | 1 => ("JudgeHalves$Foresight", "above", "J", false)
  | _ => ("JudgeHalves$Foresight", "below", "J", false)
def tyX3 : Nat → FieldType := fun k => match k with
  | 0 => .object "JudgeHalves$Circuit"
  | 1 => .long
  | _ => .long
abbrev wsX30 : List Cond := u_ws RX3 TX3 3
theorem nmX3 : ∀ a, a < 3 → ∀ b, b < 3 → a ≠ b → (TX3 a).2.1 ≠ (TX3 b).2.1 := by decide +kernel
theorem tyX3_ok : ∀ k, k < 3 → parseFieldDescriptor (TX3 k).2.2.1 = some (tyX3 k) := by decide +kernel
abbrev cX3_init : ByteArray := prog_5_method_1_code
def yX3_init : MethodName := ⟨RX3, "<init>", "()V"⟩
abbrev cX3_look : ByteArray := prog_5_method_2_code
def yX3_look : MethodName := ⟨RX3, "look", "(LJudgeHalves$Circuit;I)LJudgeHalves$Circuit;"⟩
abbrev cX3_firstYearAs : ByteArray := prog_5_method_3_code
def yX3_firstYearAs : MethodName := ⟨RX3, "firstYearAs", "(LJudgeHalves$Circuit;II)I"⟩
abbrev cX3_weighFences : ByteArray := prog_5_method_4_code
def yX3_weighFences : MethodName := ⟨RX3, "weighFences", "(LJudgeHalves$Circuit;III)V"⟩
abbrev cX3_casesOf : ByteArray := prog_5_method_5_code
def yX3_casesOf : MethodName := ⟨RX3, "casesOf", "(III)J"⟩
abbrev cX3_reduce : ByteArray := prog_5_method_6_code
def yX3_reduce : MethodName := ⟨RX3, "reduce", "()V"⟩
abbrev cX3_above : ByteArray := prog_5_method_7_code
def yX3_above : MethodName := ⟨RX3, "above", "()J"⟩
abbrev cX3_below : ByteArray := prog_5_method_8_code
def yX3_below : MethodName := ⟨RX3, "below", "()J"⟩
abbrev cX3_lookByDraws : ByteArray := prog_5_method_9_code
def yX3_lookByDraws : MethodName := ⟨RX3, "lookByDraws", "(LJudgeHalves$Circuit;II)LJudgeHalves$Circuit;"⟩
abbrev cX3_actOnDraw : ByteArray := prog_5_method_10_code
def yX3_actOnDraw : MethodName := ⟨RX3, "actOnDraw", "(J)V"⟩
def RX4 : String := "JudgeHalves$Past"
def TX4 : u_T := fun k => match k with
  | 0 => ("JudgeHalves$Past", "kept", "[LJudgeHalves$Circuit;", true)
  | 1 => ("JudgeHalves$Past", "oldest", "I", false)
  | _ => ("JudgeHalves$Past", "acts", "I", false)
def tyX4 : Nat → FieldType := fun k => match k with
  | 0 => .array (.object "JudgeHalves$Circuit")
  | 1 => .int
  | _ => .int
abbrev wsX40 : List Cond := u_ws RX4 TX4 3
theorem nmX4 : ∀ a, a < 3 → ∀ b, b < 3 → a ≠ b → (TX4 a).2.1 ≠ (TX4 b).2.1 := by decide +kernel
theorem tyX4_ok : ∀ k, k < 3 → parseFieldDescriptor (TX4 k).2.2.1 = some (tyX4 k) := by decide +kernel
abbrev cX4_init : ByteArray := prog_6_method_1_code
def yX4_init : MethodName := ⟨RX4, "<init>", "()V"⟩
abbrev cX4_size : ByteArray := prog_6_method_2_code
def yX4_size : MethodName := ⟨RX4, "size", "()I"⟩
abbrev cX4_forget : ByteArray := prog_6_method_3_code
def yX4_forget : MethodName := ⟨RX4, "forget", "()V"⟩
abbrev cX4_keep : ByteArray := prog_6_method_4_code
def yX4_keep : MethodName := ⟨RX4, "keep", "(LJudgeHalves$Circuit;)V"⟩
abbrev cX4_giveBack : ByteArray := prog_6_method_5_code
def yX4_giveBack : MethodName := ⟨RX4, "giveBack", "(LJudgeHalves$Circuit;)V"⟩
abbrev cX4_placeOf : ByteArray := prog_6_method_6_code
def yX4_placeOf : MethodName := ⟨RX4, "placeOf", "(I)I"⟩
def RX5 : String := "JudgeHalves$Planner"
def TX5 : u_T := fun k => match k with
  | 0 => ("JudgeHalves$Planner", "start", "LJudgeHalves$Circuit;", true)
  | 1 => ("JudgeHalves$Planner", "trial", "LJudgeHalves$Circuit;", true)
  | 2 => ("JudgeHalves$Planner", "worths", "[I", true)
  | 3 => ("JudgeHalves$Planner", "sentTo", "[I", true)
  | 4 => ("JudgeHalves$Planner", "bestTo", "[I", true)
  | 5 => ("JudgeHalves$Planner", "waiting", "I", false)
  | 6 => ("JudgeHalves$Planner", "set", "I", false)
  | 7 => ("JudgeHalves$Planner", "worth", "I", false)
  | 8 => ("JudgeHalves$Planner", "one", "I", false)
  | 9 => ("JudgeHalves$Planner", "other", "I", false)
  | 10 => ("JudgeHalves$Planner", "turns", "I", false)
  | _ => ("JudgeHalves$Planner", "span", "I", false)
def tyX5 : Nat → FieldType := fun k => match k with
  | 0 => .object "JudgeHalves$Circuit"
  | 1 => .object "JudgeHalves$Circuit"
  | 2 => .array .int
  | 3 => .array .int
  | 4 => .array .int
  | 5 => .int
  | 6 => .int
  | 7 => .int
  | 8 => .int
  | 9 => .int
  | 10 => .int
  | _ => .int
abbrev wsX50 : List Cond := u_ws RX5 TX5 12
theorem nmX5 : ∀ a, a < 12 → ∀ b, b < 12 → a ≠ b → (TX5 a).2.1 ≠ (TX5 b).2.1 := by decide +kernel
theorem tyX5_ok : ∀ k, k < 12 → parseFieldDescriptor (TX5 k).2.2.1 = some (tyX5 k) := by decide +kernel
abbrev cX5_init : ByteArray := prog_7_method_1_code
def yX5_init : MethodName := ⟨RX5, "<init>", "()V"⟩
abbrev cX5_bestSet : ByteArray := prog_7_method_2_code
def yX5_bestSet : MethodName := ⟨RX5, "bestSet", "()I"⟩
abbrev cX5_bestWorth : ByteArray := prog_7_method_3_code
def yX5_bestWorth : MethodName := ⟨RX5, "bestWorth", "()I"⟩
abbrev cX5_sentDone : ByteArray := prog_7_method_4_code
def yX5_sentDone : MethodName := ⟨RX5, "sentDone", "()I"⟩
abbrev cX5_sentJudge : ByteArray := prog_7_method_5_code
def yX5_sentJudge : MethodName := ⟨RX5, "sentJudge", "(I)I"⟩
abbrev cX5_planSending : ByteArray := prog_7_method_6_code
def yX5_planSending : MethodName := ⟨RX5, "planSending", "(LJudgeHalves$Circuit;I)V"⟩
abbrev cX5_worthOfSending : ByteArray := prog_7_method_7_code
def yX5_worthOfSending : MethodName := ⟨RX5, "worthOfSending", "(III)I"⟩
abbrev cX5_sendFrom : ByteArray := prog_7_method_8_code
def yX5_sendFrom : MethodName := ⟨RX5, "sendFrom", "(I)V"⟩
abbrev cX5_weighSending : ByteArray := prog_7_method_9_code
def yX5_weighSending : MethodName := ⟨RX5, "weighSending", "()V"⟩
abbrev cX5_planGates : ByteArray := prog_7_method_10_code
def yX5_planGates : MethodName := ⟨RX5, "planGates", "(LJudgeHalves$Circuit;I)V"⟩
abbrev cX5_planLettingOff : ByteArray := prog_7_method_11_code
def yX5_planLettingOff : MethodName := ⟨RX5, "planLettingOff", "(LJudgeHalves$Circuit;I)V"⟩
abbrev cX5_nobodyWaitsWithout : ByteArray := prog_7_method_12_code
def yX5_nobodyWaitsWithout : MethodName := ⟨RX5, "nobodyWaitsWithout", "(LJudgeHalves$Circuit;II)Z"⟩
abbrev cX5_playTurns : ByteArray := prog_7_method_13_code
def yX5_playTurns : MethodName := ⟨RX5, "playTurns", "(LJudgeHalves$Circuit;IIII)I"⟩
abbrev cX5_playFrom : ByteArray := prog_7_method_14_code
def yX5_playFrom : MethodName := ⟨RX5, "playFrom", "(I)I"⟩
abbrev cX5_outcome : ByteArray := prog_7_method_15_code
def yX5_outcome : MethodName := ⟨RX5, "outcome", "()I"⟩
def RX6 : String := "JudgeHalves$Rows"
def TX6 : u_T := fun k => match k with
  | 0 => ("JudgeHalves$Rows", "items", "[[I", true)
  | 1 => ("JudgeHalves$Rows", "lanes", "[I", true)
  | _ => ("JudgeHalves$Rows", "sizes", "[I", true)
def tyX6 : Nat → FieldType := fun k => match k with
  | 0 => .array (.array .int)
  | 1 => .array .int
  | _ => .array .int
abbrev wsX60 : List Cond := u_ws RX6 TX6 3
theorem nmX6 : ∀ a, a < 3 → ∀ b, b < 3 → a ≠ b → (TX6 a).2.1 ≠ (TX6 b).2.1 := by decide +kernel
theorem tyX6_ok : ∀ k, k < 3 → parseFieldDescriptor (TX6 k).2.2.1 = some (tyX6 k) := by decide +kernel
abbrev cX6_init : ByteArray := prog_8_method_1_code
def yX6_init : MethodName := ⟨RX6, "<init>", "()V"⟩
abbrev cX6_isRow : ByteArray := prog_8_method_2_code
def yX6_isRow : MethodName := ⟨RX6, "isRow", "(I)Z"⟩
abbrev cX6_isMissing : ByteArray := prog_8_method_3_code
def yX6_isMissing : MethodName := ⟨RX6, "isMissing", "(I)Z"⟩
abbrev cX6_findingFor : ByteArray := prog_8_method_4_code
def yX6_findingFor : MethodName := ⟨RX6, "findingFor", "(III)I"⟩
abbrev cX6_findingForTwo : ByteArray := prog_8_method_5_code
def yX6_findingForTwo : MethodName := ⟨RX6, "findingForTwo", "(IIIII)I"⟩
abbrev cX6_hasPlaces : ByteArray := prog_8_method_6_code
def yX6_hasPlaces : MethodName := ⟨RX6, "hasPlaces", "(III)Z"⟩
abbrev cX6_make : ByteArray := prog_8_method_7_code
def yX6_make : MethodName := ⟨RX6, "make", "(III)V"⟩
abbrev cX6_put : ByteArray := prog_8_method_8_code
def yX6_put : MethodName := ⟨RX6, "put", "(III)I"⟩
abbrev cX6_lowestBits : ByteArray := prog_8_method_9_code
def yX6_lowestBits : MethodName := ⟨RX6, "lowestBits", "(II)I"⟩
abbrev cX6_itemAt : ByteArray := prog_8_method_10_code
def yX6_itemAt : MethodName := ⟨RX6, "itemAt", "(II)I"⟩
abbrev cX6_move : ByteArray := prog_8_method_11_code
def yX6_move : MethodName := ⟨RX6, "move", "(IIIII)V"⟩
abbrev cX6_lose : ByteArray := prog_8_method_12_code
def yX6_lose : MethodName := ⟨RX6, "lose", "(I)I"⟩
abbrev cX6_howMany : ByteArray := prog_8_method_13_code
def yX6_howMany : MethodName := ⟨RX6, "howMany", "()I"⟩
def RX7 : String := "JudgeHalves$Tape"
def TX7 : u_T := fun k => match k with
  | 0 => ("JudgeHalves$Tape", "bytes", "[I", true)
  | 1 => ("JudgeHalves$Tape", "told", "LJudgeHalves$Circuit;", true)
  | 2 => ("JudgeHalves$Tape", "length", "I", false)
  | 3 => ("JudgeHalves$Tape", "at", "I", false)
  | 4 => ("JudgeHalves$Tape", "token", "I", false)
  | 5 => ("JudgeHalves$Tape", "value", "I", false)
  | 6 => ("JudgeHalves$Tape", "behind", "I", false)
  | 7 => ("JudgeHalves$Tape", "first", "I", false)
  | 8 => ("JudgeHalves$Tape", "second", "I", false)
  | 9 => ("JudgeHalves$Tape", "faultNumber", "I", false)
  | _ => ("JudgeHalves$Tape", "faultPlace", "I", false)
def tyX7 : Nat → FieldType := fun k => match k with
  | 0 => .array .int
  | 1 => .object "JudgeHalves$Circuit"
  | 2 => .int
  | 3 => .int
  | 4 => .int
  | 5 => .int
  | 6 => .int
  | 7 => .int
  | 8 => .int
  | 9 => .int
  | _ => .int
abbrev wsX70 : List Cond := u_ws RX7 TX7 11
theorem nmX7 : ∀ a, a < 11 → ∀ b, b < 11 → a ≠ b → (TX7 a).2.1 ≠ (TX7 b).2.1 := by decide +kernel
theorem tyX7_ok : ∀ k, k < 11 → parseFieldDescriptor (TX7 k).2.2.1 = some (tyX7 k) := by decide +kernel
abbrev cX7_init : ByteArray := prog_9_method_1_code
def yX7_init : MethodName := ⟨RX7, "<init>", "()V"⟩
abbrev cX7_size : ByteArray := prog_9_method_2_code
def yX7_size : MethodName := ⟨RX7, "size", "()I"⟩
abbrev cX7_isFull : ByteArray := prog_9_method_3_code
def yX7_isFull : MethodName := ⟨RX7, "isFull", "()Z"⟩
abbrev cX7_add : ByteArray := prog_9_method_4_code
def yX7_add : MethodName := ⟨RX7, "add", "(I)I"⟩
abbrev cX7_faultNumber : ByteArray := prog_9_method_5_code
def yX7_faultNumber : MethodName := ⟨RX7, "faultNumber", "()I"⟩
abbrev cX7_faultPlace : ByteArray := prog_9_method_6_code
def yX7_faultPlace : MethodName := ⟨RX7, "faultPlace", "()I"⟩
abbrev cX7_readAll : ByteArray := prog_9_method_7_code
def yX7_readAll : MethodName := ⟨RX7, "readAll", "()LJudgeHalves$Circuit;"⟩
abbrev cX7_readLaw : ByteArray := prog_9_method_8_code
def yX7_readLaw : MethodName := ⟨RX7, "readLaw", "()Z"⟩
abbrev cX7_readJudges : ByteArray := prog_9_method_9_code
def yX7_readJudges : MethodName := ⟨RX7, "readJudges", "()Z"⟩
abbrev cX7_readMen : ByteArray := prog_9_method_10_code
def yX7_readMen : MethodName := ⟨RX7, "readMen", "()Z"⟩
abbrev cX7_sortSeen : ByteArray := prog_9_method_11_code
def yX7_sortSeen : MethodName := ⟨RX7, "sortSeen", "()I"⟩
abbrev cX7_readPair : ByteArray := prog_9_method_12_code
def yX7_readPair : MethodName := ⟨RX7, "readPair", "(IIII)Z"⟩
abbrev cX7_seesNumber : ByteArray := prog_9_method_13_code
def yX7_seesNumber : MethodName := ⟨RX7, "seesNumber", "(II)Z"⟩
abbrev cX7_passesSign : ByteArray := prog_9_method_14_code
def yX7_passesSign : MethodName := ⟨RX7, "passesSign", "(I)Z"⟩
abbrev cX7_seesLetter : ByteArray := prog_9_method_15_code
def yX7_seesLetter : MethodName := ⟨RX7, "seesLetter", "(I)Z"⟩
abbrev cX7_faulty : ByteArray := prog_9_method_16_code
def yX7_faulty : MethodName := ⟨RX7, "faulty", "(I)Z"⟩
abbrev cX7_byteAt : ByteArray := prog_9_method_17_code
def yX7_byteAt : MethodName := ⟨RX7, "byteAt", "(I)I"⟩
abbrev cX7_next : ByteArray := prog_9_method_18_code
def yX7_next : MethodName := ⟨RX7, "next", "()V"⟩
abbrev cX7_lookAtNumber : ByteArray := prog_9_method_19_code
def yX7_lookAtNumber : MethodName := ⟨RX7, "lookAtNumber", "()V"⟩
abbrev cX7_isFigure : ByteArray := prog_9_method_20_code
def yX7_isFigure : MethodName := ⟨RX7, "isFigure", "(I)Z"⟩
def RX8 : String := "JudgeHalves"
def TX8 : u_T := fun k => match k with
  | 0 => ("JudgeHalves", "rows", "LJudgeHalves$Rows;", true)
  | 1 => ("JudgeHalves", "now", "LJudgeHalves$Circuit;", true)
  | 2 => ("JudgeHalves", "tape", "LJudgeHalves$Tape;", true)
  | 3 => ("JudgeHalves", "past", "LJudgeHalves$Past;", true)
  | 4 => ("JudgeHalves", "foresight", "LJudgeHalves$Foresight;", true)
  | 5 => ("JudgeHalves", "planner", "LJudgeHalves$Planner;", true)
  | 6 => ("JudgeHalves", "fitting", "LJudgeHalves$Fitting;", true)
  | 7 => ("JudgeHalves", "asks", "LJudgeHalves$Asks;", true)
  | 8 => ("JudgeHalves", "images", "[LJudgeHalves$Circuit;", true)
  | _ => ("JudgeHalves", "latestFinding", "I", false)
def tyX8 : Nat → FieldType := fun k => match k with
  | 0 => .object "JudgeHalves$Rows"
  | 1 => .object "JudgeHalves$Circuit"
  | 2 => .object "JudgeHalves$Tape"
  | 3 => .object "JudgeHalves$Past"
  | 4 => .object "JudgeHalves$Foresight"
  | 5 => .object "JudgeHalves$Planner"
  | 6 => .object "JudgeHalves$Fitting"
  | 7 => .object "JudgeHalves$Asks"
  | 8 => .array (.object "JudgeHalves$Circuit")
  | _ => .int
abbrev wsX80 : List Cond := u_ws RX8 TX8 10
theorem nmX8 : ∀ a, a < 10 → ∀ b, b < 10 → a ≠ b → (TX8 a).2.1 ≠ (TX8 b).2.1 := by decide +kernel
theorem tyX8_ok : ∀ k, k < 10 → parseFieldDescriptor (TX8 k).2.2.1 = some (tyX8 k) := by decide +kernel
abbrev cX8_init : ByteArray := prog_1_method_1_code
def yX8_init : MethodName := ⟨RX8, "<init>", "()V"⟩
abbrev cX8_row : ByteArray := prog_1_method_2_code
def yX8_row : MethodName := ⟨RX8, "row", "(III)I"⟩
abbrev cX8_set : ByteArray := prog_1_method_3_code
def yX8_set : MethodName := ⟨RX8, "set", "(III)I"⟩
abbrev cX8_copy : ByteArray := prog_1_method_4_code
def yX8_copy : MethodName := ⟨RX8, "copy", "(IIIII)I"⟩
abbrev cX8_drop : ByteArray := prog_1_method_5_code
def yX8_drop : MethodName := ⟨RX8, "drop", "(I)I"⟩
abbrev cX8_feed : ByteArray := prog_1_method_6_code
def yX8_feed : MethodName := ⟨RX8, "feed", "(I)I"⟩
abbrev cX8_circuit : ByteArray := prog_1_method_7_code
def yX8_circuit : MethodName := ⟨RX8, "circuit", "()I"⟩
abbrev cX8_fault : ByteArray := prog_1_method_8_code
def yX8_fault : MethodName := ⟨RX8, "fault", "()I"⟩
abbrev cX8_undo : ByteArray := prog_1_method_9_code
def yX8_undo : MethodName := ⟨RX8, "undo", "()I"⟩
abbrev cX8_years : ByteArray := prog_1_method_10_code
def yX8_years : MethodName := ⟨RX8, "years", "(I)I"⟩
abbrev cX8_send : ByteArray := prog_1_method_11_code
def yX8_send : MethodName := ⟨RX8, "send", "(II)I"⟩
abbrev cX8_sentence : ByteArray := prog_1_method_12_code
def yX8_sentence : MethodName := ⟨RX8, "sentence", "(II)I"⟩
abbrev cX8_gate : ByteArray := prog_1_method_13_code
def yX8_gate : MethodName := ⟨RX8, "gate", "(II)I"⟩
abbrev cX8_severe : ByteArray := prog_1_method_14_code
def yX8_severe : MethodName := ⟨RX8, "severe", "(II)I"⟩
abbrev cX8_retry : ByteArray := prog_1_method_15_code
def yX8_retry : MethodName := ⟨RX8, "retry", "(III)I"⟩
abbrev cX8_man : ByteArray := prog_1_method_16_code
def yX8_man : MethodName := ⟨RX8, "man", "(II)I"⟩
abbrev cX8_judge : ByteArray := prog_1_method_17_code
def yX8_judge : MethodName := ⟨RX8, "judge", "(II)I"⟩
abbrev cX8_stand : ByteArray := prog_1_method_18_code
def yX8_stand : MethodName := ⟨RX8, "stand", "(I)I"⟩
abbrev cX8_ahead : ByteArray := prog_1_method_19_code
def yX8_ahead : MethodName := ⟨RX8, "ahead", "(III)I"⟩
abbrev cX8_by : ByteArray := prog_1_method_20_code
def yX8_by : MethodName := ⟨RX8, "by", "(II)I"⟩
abbrev cX8_when : ByteArray := prog_1_method_21_code
def yX8_when : MethodName := ⟨RX8, "when", "(II)I"⟩
abbrev cX8_sending : ByteArray := prog_1_method_22_code
def yX8_sending : MethodName := ⟨RX8, "sending", "(II)I"⟩
abbrev cX8_gates : ByteArray := prog_1_method_23_code
def yX8_gates : MethodName := ⟨RX8, "gates", "(II)I"⟩
abbrev cX8_let : ByteArray := prog_1_method_24_code
def yX8_let : MethodName := ⟨RX8, "let", "(II)I"⟩
abbrev cX8_closest : ByteArray := prog_1_method_25_code
def yX8_closest : MethodName := ⟨RX8, "closest", "(II)I"⟩
abbrev cX8_share : ByteArray := prog_1_method_26_code
def yX8_share : MethodName := ⟨RX8, "share", "(II)I"⟩
abbrev cX8_byTurns : ByteArray := prog_1_method_27_code
def yX8_byTurns : MethodName := ⟨RX8, "byTurns", "(IIII)I"⟩
abbrev cX8_who : ByteArray := prog_1_method_28_code
def yX8_who : MethodName := ⟨RX8, "who", "(IIIII)I"⟩
abbrev cX8_severes : ByteArray := prog_1_method_29_code
def yX8_severes : MethodName := ⟨RX8, "severes", "(IIIII)I"⟩
abbrev cX8_likes : ByteArray := prog_1_method_30_code
def yX8_likes : MethodName := ⟨RX8, "likes", "(IIIII)I"⟩
abbrev cX8_fence : ByteArray := prog_1_method_31_code
def yX8_fence : MethodName := ⟨RX8, "fence", "(IIII)J"⟩
abbrev cX8_drawn : ByteArray := prog_1_method_32_code
def yX8_drawn : MethodName := ⟨RX8, "drawn", "(III)I"⟩
abbrev cX8_image : ByteArray := prog_1_method_33_code
def yX8_image : MethodName := ⟨RX8, "image", "(I)I"⟩
abbrev cX8_restore : ByteArray := prog_1_method_34_code
def yX8_restore : MethodName := ⟨RX8, "restore", "(I)I"⟩
abbrev cX8_kind : ByteArray := prog_1_method_35_code
def yX8_kind : MethodName := ⟨RX8, "kind", "(I)I"⟩
abbrev cX8_as : ByteArray := prog_1_method_36_code
def yX8_as : MethodName := ⟨RX8, "as", "(II)I"⟩
abbrev cX8_ask : ByteArray := prog_1_method_37_code
def yX8_ask : MethodName := ⟨RX8, "ask", "(II)I"⟩
abbrev cX8_trace : ByteArray := prog_1_method_38_code
def yX8_trace : MethodName := ⟨RX8, "trace", "(I)I"⟩
abbrev cX8_count : ByteArray := prog_1_method_39_code
def yX8_count : MethodName := ⟨RX8, "count", "(I)I"⟩
abbrev cX8_status : ByteArray := prog_1_method_40_code
def yX8_status : MethodName := ⟨RX8, "status", "()I"⟩
abbrev cX8_hasCircuit : ByteArray := prog_1_method_41_code
def yX8_hasCircuit : MethodName := ⟨RX8, "hasCircuit", "()Z"⟩
abbrev cX8_isToldRow : ByteArray := prog_1_method_42_code
def yX8_isToldRow : MethodName := ⟨RX8, "isToldRow", "(II)Z"⟩
abbrev cX8_found : ByteArray := prog_1_method_43_code
def yX8_found : MethodName := ⟨RX8, "found", "(I)I"⟩
abbrev cX8_foundNothing : ByteArray := prog_1_method_44_code
def yX8_foundNothing : MethodName := ⟨RX8, "foundNothing", "(I)I"⟩
abbrev cX8_isWithin : ByteArray := prog_1_method_45_code
def yX8_isWithin : MethodName := ⟨RX8, "isWithin", "(III)Z"⟩
abbrev cX8_isOfKind : ByteArray := prog_1_method_46_code
def yX8_isOfKind : MethodName := ⟨RX8, "isOfKind", "(II)Z"⟩
def RX9 : String := "JudgeHalvesModel"
def TX9 : u_T := fun k => match k with
  | 0 => ("JudgeHalvesModel", "thrown", "I", false)
  | 1 => ("JudgeHalvesModel", "status", "I", false)
  | 2 => ("JudgeHalvesModel", "lane", "[I", true)
  | 3 => ("JudgeHalvesModel", "many", "[I", true)
  | 4 => ("JudgeHalvesModel", "item", "[I", true)
  | 5 => ("JudgeHalvesModel", "circuit", "[I", true)
  | 6 => ("JudgeHalvesModel", "fresh", "[I", true)
  | 7 => ("JudgeHalvesModel", "then", "[I", true)
  | 8 => ("JudgeHalvesModel", "was", "[I", true)
  | 9 => ("JudgeHalvesModel", "acts", "I", false)
  | 10 => ("JudgeHalvesModel", "tape", "[I", true)
  | 11 => ("JudgeHalvesModel", "taped", "I", false)
  | 12 => ("JudgeHalvesModel", "cursor", "I", false)
  | 13 => ("JudgeHalvesModel", "start", "I", false)
  | 14 => ("JudgeHalvesModel", "token", "I", false)
  | 15 => ("JudgeHalvesModel", "value", "I", false)
  | 16 => ("JudgeHalvesModel", "fault", "I", false)
  | 17 => ("JudgeHalvesModel", "faultAt", "I", false)
  | 18 => ("JudgeHalvesModel", "latest", "I", false)
  | 19 => ("JudgeHalvesModel", "sent", "[I", true)
  | 20 => ("JudgeHalvesModel", "tried", "[I", true)
  | 21 => ("JudgeHalvesModel", "turn", "[I", true)
  | 22 => ("JudgeHalvesModel", "isKept", "[Z", true)
  | 23 => ("JudgeHalvesModel", "kept", "[I", true)
  | 24 => ("JudgeHalvesModel", "trace", "[I", true)
  | _ => ("JudgeHalvesModel", "traced", "I", false)
def tyX9 : Nat → FieldType := fun k => match k with
  | 0 => .int
  | 1 => .int
  | 2 => .array .int
  | 3 => .array .int
  | 4 => .array .int
  | 5 => .array .int
  | 6 => .array .int
  | 7 => .array .int
  | 8 => .array .int
  | 9 => .int
  | 10 => .array .int
  | 11 => .int
  | 12 => .int
  | 13 => .int
  | 14 => .int
  | 15 => .int
  | 16 => .int
  | 17 => .int
  | 18 => .int
  | 19 => .array .int
  | 20 => .array .int
  | 21 => .array .int
  | 22 => .array .boolean
  | 23 => .array .int
  | 24 => .array .int
  | _ => .int
abbrev wsX90 : List Cond := u_ws RX9 TX9 26
theorem nmX9 : ∀ a, a < 26 → ∀ b, b < 26 → a ≠ b → (TX9 a).2.1 ≠ (TX9 b).2.1 := by decide +kernel
theorem tyX9_ok : ∀ k, k < 26 → parseFieldDescriptor (TX9 k).2.2.1 = some (tyX9 k) := by decide +kernel
abbrev cX9_init : ByteArray := prog_11_method_1_code
def yX9_init : MethodName := ⟨RX9, "<init>", "()V"⟩
abbrev cX9_in : ByteArray := prog_11_method_3_code
def yX9_in : MethodName := ⟨RX9, "in", "(JJJ)Z"⟩
abbrev cX9_finding : ByteArray := prog_11_method_4_code
def yX9_finding : MethodName := ⟨RX9, "finding", "(I)I"⟩
abbrev cX9_isRow : ByteArray := prog_11_method_5_code
def yX9_isRow : MethodName := ⟨RX9, "isRow", "(I)Z"⟩
abbrev cX9_row : ByteArray := prog_11_method_6_code
def yX9_row : MethodName := ⟨RX9, "row", "(III)I"⟩
abbrev cX9_set : ByteArray := prog_11_method_7_code
def yX9_set : MethodName := ⟨RX9, "set", "(III)I"⟩
abbrev cX9_copy : ByteArray := prog_11_method_8_code
def yX9_copy : MethodName := ⟨RX9, "copy", "(IIIII)I"⟩
abbrev cX9_drop : ByteArray := prog_11_method_9_code
def yX9_drop : MethodName := ⟨RX9, "drop", "(I)I"⟩
abbrev cX9_feed : ByteArray := prog_11_method_10_code
def yX9_feed : MethodName := ⟨RX9, "feed", "(I)I"⟩
abbrev cX9_bad : ByteArray := prog_11_method_11_code
def yX9_bad : MethodName := ⟨RX9, "bad", "(I)V"⟩
abbrev cX9_nextToken : ByteArray := prog_11_method_12_code
def yX9_nextToken : MethodName := ⟨RX9, "nextToken", "()V"⟩
abbrev cX9_must : ByteArray := prog_11_method_13_code
def yX9_must : MethodName := ⟨RX9, "must", "(Z)V"⟩
abbrev cX9_isLetter : ByteArray := prog_11_method_14_code
def yX9_isLetter : MethodName := ⟨RX9, "isLetter", "(I)Z"⟩
abbrev cX9_number : ByteArray := prog_11_method_15_code
def yX9_number : MethodName := ⟨RX9, "number", "(II)I"⟩
abbrev cX9_mustSign : ByteArray := prog_11_method_16_code
def yX9_mustSign : MethodName := ⟨RX9, "mustSign", "(I)V"⟩
abbrev cX9_begin : ByteArray := prog_11_method_17_code
def yX9_begin : MethodName := ⟨RX9, "begin", "()V"⟩
abbrev cX9_failed : ByteArray := prog_11_method_18_code
def yX9_failed : MethodName := ⟨RX9, "failed", "()Z"⟩
abbrev cX9_fault : ByteArray := prog_11_method_19_code
def yX9_fault : MethodName := ⟨RX9, "fault", "()I"⟩
abbrev cX9_kindBy : ByteArray := prog_11_method_20_code
def yX9_kindBy : MethodName := ⟨RX9, "kindBy", "(I)I"⟩
abbrev cX9_isSort : ByteArray := prog_11_method_21_code
def yX9_isSort : MethodName := ⟨RX9, "isSort", "()Z"⟩
abbrev cX9_readJudge : ByteArray := prog_11_method_22_code
def yX9_readJudge : MethodName := ⟨RX9, "readJudge", "()V"⟩
abbrev cX9_readMan : ByteArray := prog_11_method_23_code
def yX9_readMan : MethodName := ⟨RX9, "readMan", "()V"⟩
abbrev cX9_circuit : ByteArray := prog_11_method_24_code
def yX9_circuit : MethodName := ⟨RX9, "circuit", "()I"⟩
abbrev cX9_isThere : ByteArray := prog_11_method_25_code
def yX9_isThere : MethodName := ⟨RX9, "isThere", "()Z"⟩
abbrev cX9_isMan : ByteArray := prog_11_method_26_code
def yX9_isMan : MethodName := ⟨RX9, "isMan", "(I)Z"⟩
abbrev cX9_isJudge : ByteArray := prog_11_method_27_code
def yX9_isJudge : MethodName := ⟨RX9, "isJudge", "(I)Z"⟩
abbrev cX9_bits : ByteArray := prog_11_method_28_code
def yX9_bits : MethodName := ⟨RX9, "bits", "(I)I"⟩
abbrev cX9_has : ByteArray := prog_11_method_29_code
def yX9_has : MethodName := ⟨RX9, "has", "(II)Z"⟩
abbrev cX9_of : ByteArray := prog_11_method_30_code
def yX9_of : MethodName := ⟨RX9, "of", "([III)I"⟩
abbrev cX9_be : ByteArray := prog_11_method_31_code
def yX9_be : MethodName := ⟨RX9, "be", "([IIII)V"⟩
abbrev cX9_severeOf : ByteArray := prog_11_method_32_code
def yX9_severeOf : MethodName := ⟨RX9, "severeOf", "([II)I"⟩
abbrev cX9_isOpen : ByteArray := prog_11_method_33_code
def yX9_isOpen : MethodName := ⟨RX9, "isOpen", "([II)Z"⟩
abbrev cX9_those : ByteArray := prog_11_method_34_code
def yX9_those : MethodName := ⟨RX9, "those", "([II)I"⟩
abbrev cX9_whoIsBy : ByteArray := prog_11_method_35_code
def yX9_whoIsBy : MethodName := ⟨RX9, "whoIsBy", "([II)I"⟩
abbrev cX9_gainOf : ByteArray := prog_11_method_36_code
def yX9_gainOf : MethodName := ⟨RX9, "gainOf", "([II)I"⟩
abbrev cX9_yearBy : ByteArray := prog_11_method_37_code
def yX9_yearBy : MethodName := ⟨RX9, "yearBy", "([IZ)V"⟩
abbrev cX9_yearsOf : ByteArray := prog_11_method_38_code
def yX9_yearsOf : MethodName := ⟨RX9, "yearsOf", "([II)V"⟩
abbrev cX9_trustOf : ByteArray := prog_11_method_39_code
def yX9_trustOf : MethodName := ⟨RX9, "trustOf", "([II)I"⟩
abbrev cX9_comesAgain : ByteArray := prog_11_method_40_code
def yX9_comesAgain : MethodName := ⟨RX9, "comesAgain", "([IIII)V"⟩
abbrev cX9_layThen : ByteArray := prog_11_method_41_code
def yX9_layThen : MethodName := ⟨RX9, "layThen", "()V"⟩
abbrev cX9_keep : ByteArray := prog_11_method_42_code
def yX9_keep : MethodName := ⟨RX9, "keep", "()V"⟩
abbrev cX9_years : ByteArray := prog_11_method_43_code
def yX9_years : MethodName := ⟨RX9, "years", "(I)I"⟩
abbrev cX9_send : ByteArray := prog_11_method_44_code
def yX9_send : MethodName := ⟨RX9, "send", "(II)I"⟩
abbrev cX9_sentence : ByteArray := prog_11_method_45_code
def yX9_sentence : MethodName := ⟨RX9, "sentence", "(II)I"⟩
abbrev cX9_turned : ByteArray := prog_11_method_46_code
def yX9_turned : MethodName := ⟨RX9, "turned", "(III)I"⟩
abbrev cX9_gate : ByteArray := prog_11_method_47_code
def yX9_gate : MethodName := ⟨RX9, "gate", "(II)I"⟩
abbrev cX9_severe : ByteArray := prog_11_method_48_code
def yX9_severe : MethodName := ⟨RX9, "severe", "(II)I"⟩
abbrev cX9_retry : ByteArray := prog_11_method_49_code
def yX9_retry : MethodName := ⟨RX9, "retry", "(III)I"⟩
abbrev cX9_undo : ByteArray := prog_11_method_50_code
def yX9_undo : MethodName := ⟨RX9, "undo", "()I"⟩
abbrev cX9_man : ByteArray := prog_11_method_51_code
def yX9_man : MethodName := ⟨RX9, "man", "(II)I"⟩
abbrev cX9_judge : ByteArray := prog_11_method_52_code
def yX9_judge : MethodName := ⟨RX9, "judge", "(II)I"⟩
abbrev cX9_stand : ByteArray := prog_11_method_53_code
def yX9_stand : MethodName := ⟨RX9, "stand", "(I)I"⟩
abbrev cX9_ahead : ByteArray := prog_11_method_54_code
def yX9_ahead : MethodName := ⟨RX9, "ahead", "(III)I"⟩
abbrev cX9_by : ByteArray := prog_11_method_55_code
def yX9_by : MethodName := ⟨RX9, "by", "(II)I"⟩
abbrev cX9_when : ByteArray := prog_11_method_56_code
def yX9_when : MethodName := ⟨RX9, "when", "(II)I"⟩
abbrev cX9_sending : ByteArray := prog_11_method_57_code
def yX9_sending : MethodName := ⟨RX9, "sending", "(II)I"⟩
abbrev cX9_gates : ByteArray := prog_11_method_58_code
def yX9_gates : MethodName := ⟨RX9, "gates", "(II)I"⟩
abbrev cX9_let : ByteArray := prog_11_method_59_code
def yX9_let : MethodName := ⟨RX9, "let", "(II)I"⟩
abbrev cX9_closest : ByteArray := prog_11_method_60_code
def yX9_closest : MethodName := ⟨RX9, "closest", "(II)I"⟩
abbrev cX9_dueTo : ByteArray := prog_11_method_61_code
def yX9_dueTo : MethodName := ⟨RX9, "dueTo", "(I)I"⟩
abbrev cX9_share : ByteArray := prog_11_method_62_code
def yX9_share : MethodName := ⟨RX9, "share", "(II)I"⟩
abbrev cX9_mayGive : ByteArray := prog_11_method_63_code
def yX9_mayGive : MethodName := ⟨RX9, "mayGive", "(II)Z"⟩
abbrev cX9_afterTurns : ByteArray := prog_11_method_64_code
def yX9_afterTurns : MethodName := ⟨RX9, "afterTurns", "(IIII)I"⟩
abbrev cX9_fourth : ByteArray := prog_11_method_65_code
def yX9_fourth : MethodName := ⟨RX9, "fourth", "(IIII)I"⟩
abbrev cX9_third : ByteArray := prog_11_method_66_code
def yX9_third : MethodName := ⟨RX9, "third", "(IIII)I"⟩
abbrev cX9_second : ByteArray := prog_11_method_67_code
def yX9_second : MethodName := ⟨RX9, "second", "(IIII)I"⟩
abbrev cX9_byTurns : ByteArray := prog_11_method_68_code
def yX9_byTurns : MethodName := ⟨RX9, "byTurns", "(IIII)I"⟩
abbrev cX9_isSo : ByteArray := prog_11_method_69_code
def yX9_isSo : MethodName := ⟨RX9, "isSo", "(III)Z"⟩
abbrev cX9_rowFound : ByteArray := prog_11_method_70_code
def yX9_rowFound : MethodName := ⟨RX9, "rowFound", "(III)I"⟩
abbrev cX9_isMany : ByteArray := prog_11_method_71_code
def yX9_isMany : MethodName := ⟨RX9, "isMany", "(II)Z"⟩
abbrev cX9_who : ByteArray := prog_11_method_72_code
def yX9_who : MethodName := ⟨RX9, "who", "(IIIII)I"⟩
abbrev cX9_severes : ByteArray := prog_11_method_73_code
def yX9_severes : MethodName := ⟨RX9, "severes", "(IIIII)I"⟩
abbrev cX9_likes : ByteArray := prog_11_method_74_code
def yX9_likes : MethodName := ⟨RX9, "likes", "(IIIII)I"⟩
abbrev cX9_fence : ByteArray := prog_11_method_75_code
def yX9_fence : MethodName := ⟨RX9, "fence", "(IIII)J"⟩
abbrev cX9_drawn : ByteArray := prog_11_method_76_code
def yX9_drawn : MethodName := ⟨RX9, "drawn", "(III)I"⟩
abbrev cX9_image : ByteArray := prog_11_method_77_code
def yX9_image : MethodName := ⟨RX9, "image", "(I)I"⟩
abbrev cX9_restore : ByteArray := prog_11_method_78_code
def yX9_restore : MethodName := ⟨RX9, "restore", "(I)I"⟩
abbrev cX9_isOf : ByteArray := prog_11_method_79_code
def yX9_isOf : MethodName := ⟨RX9, "isOf", "(II)Z"⟩
abbrev cX9_kind : ByteArray := prog_11_method_80_code
def yX9_kind : MethodName := ⟨RX9, "kind", "(I)I"⟩
abbrev cX9_as : ByteArray := prog_11_method_81_code
def yX9_as : MethodName := ⟨RX9, "as", "(II)I"⟩
abbrev cX9_began : ByteArray := prog_11_method_82_code
def yX9_began : MethodName := ⟨RX9, "began", "(I)V"⟩
abbrev cX9_plainSize : ByteArray := prog_11_method_83_code
def yX9_plainSize : MethodName := ⟨RX9, "plainSize", "(I)I"⟩
abbrev cX9_wrongedSize : ByteArray := prog_11_method_84_code
def yX9_wrongedSize : MethodName := ⟨RX9, "wrongedSize", "(I)I"⟩
abbrev cX9_markOf : ByteArray := prog_11_method_85_code
def yX9_markOf : MethodName := ⟨RX9, "markOf", "(I)I"⟩
abbrev cX9_sizeOf : ByteArray := prog_11_method_86_code
def yX9_sizeOf : MethodName := ⟨RX9, "sizeOf", "(I)I"⟩
abbrev cX9_ask : ByteArray := prog_11_method_87_code
def yX9_ask : MethodName := ⟨RX9, "ask", "(II)I"⟩
abbrev cX9_trace : ByteArray := prog_11_method_88_code
def yX9_trace : MethodName := ⟨RX9, "trace", "(I)I"⟩
abbrev cX9_count : ByteArray := prog_11_method_89_code
def yX9_count : MethodName := ⟨RX9, "count", "(I)I"⟩
abbrev cX9_status : ByteArray := prog_11_method_90_code
def yX9_status : MethodName := ⟨RX9, "status", "()I"⟩
def RJ6 : String := "java/lang/Integer"
def TJ6 : u_T := fun k => match k with
  | _ => ("", "", "", false)
def tyJ6 : Nat → FieldType := fun k => match k with
  | _ => .int
abbrev wsJ60 : List Cond := u_ws RJ6 TJ6 0
theorem nmJ6 : ∀ a, a < 0 → ∀ b, b < 0 → a ≠ b → (TJ6 a).2.1 ≠ (TJ6 b).2.1 := by decide +kernel
theorem tyJ6_ok : ∀ k, k < 0 → parseFieldDescriptor (TJ6 k).2.2.1 = some (tyJ6 k) := by decide +kernel
abbrev cJ6_bitCount_0f7a4 : ByteArray := prog_12_method_49_code
def yJ6_bitCount_0f7a4 : MethodName := ⟨RJ6, "bitCount", "(I)I"⟩
def RJ9 : String := "java/lang/Math"
def TJ9 : u_T := fun k => match k with
  | _ => ("", "", "", false)
def tyJ9 : Nat → FieldType := fun k => match k with
  | _ => .int
abbrev wsJ90 : List Cond := u_ws RJ9 TJ9 0
theorem nmJ9 : ∀ a, a < 0 → ∀ b, b < 0 → a ≠ b → (TJ9 a).2.1 ≠ (TJ9 b).2.1 := by decide +kernel
theorem tyJ9_ok : ∀ k, k < 0 → parseFieldDescriptor (TJ9 k).2.2.1 = some (tyJ9 k) := by decide +kernel
abbrev cJ9_floorMod_7cf53 : ByteArray := prog_13_method_50_code
def yJ9_floorMod_7cf53 : MethodName := ⟨RJ9, "floorMod", "(II)I"⟩
abbrev cJ9_max_7cf53 : ByteArray := prog_13_method_65_code
def yJ9_max_7cf53 : MethodName := ⟨RJ9, "max", "(II)I"⟩
abbrev cJ9_min_7cf53 : ByteArray := prog_13_method_69_code
def yJ9_min_7cf53 : MethodName := ⟨RJ9, "min", "(II)I"⟩
def RJ10 : String := "java/lang/System"
def TJ10 : u_T := fun k => match k with
  | _ => ("", "", "", false)
def tyJ10 : Nat → FieldType := fun k => match k with
  | _ => .int
abbrev wsJ100 : List Cond := u_ws RJ10 TJ10 0
theorem nmJ10 : ∀ a, a < 0 → ∀ b, b < 0 → a ≠ b → (TJ10 a).2.1 ≠ (TJ10 b).2.1 := by decide +kernel
theorem tyJ10_ok : ∀ k, k < 0 → parseFieldDescriptor (TJ10 k).2.2.1 = some (tyJ10 k) := by decide +kernel
def RL : String := "JudgeHalvesLaw"
abbrev cL_law : ByteArray := code
def yL_law : MethodName := ⟨RL, "law", "([I)Z"⟩
abbrev vwCl : List vw_C := [(RX0, TX0, 6), (RX1, TX1, 12), (RX2, TX2, 7), (RX3, TX3, 3), (RX4, TX4, 3), (RX5, TX5, 12), (RX6, TX6, 3), (RX7, TX7, 11), (RX8, TX8, 10), (RX9, TX9, 26)]
end
section
/-! ===== THE PURE MACHINE: the bytecode run over a picture of the heap ===== -/
-- a kind: an object of a class (by its number in vwCl), or an array (element type, length); .float stands for an int array outside the world
abbrev zK : Type := Nat ⊕ (FieldType × Nat)
abbrev zP : Type := zK × Nat
abbrev zV : Type := Int32 ⊕ (Int64 ⊕ Option zP)
-- layout, references laid, ints, longs
abbrev zS : Type := List zK × (Nat → Nat → Bool) × (Nat → Nat → Int32) × (Nat → Nat → Int64)
abbrev zR : Type := Option zV × zS
-- instruction, a, b, an int constant, a long constant, the place of its link word
abbrev zI : Type := Instr × Nat × Nat × Int32 × Int64 × Nat
abbrev zC : Type := List (Option zI)
abbrev zL : Type := List (Option zV)
def zat : zC → Nat → Option zI
  | [], _ => none
  | q :: _, 0 => q
  | _ :: r, n + 1 => zat r n
def zg : zL → Nat → Option zV
  | [], _ => none
  | q :: _, 0 => q
  | _ :: r, n + 1 => zg r n
/-- what stands ahead of a stored value: a long whose second half it overwrites is gone -/
def zah (i : Nat) (q : Option zV) : Option zV := match i, q with
  | 0, some (.inr (.inl _)) => none
  | _, q => q
def zs1 : zL → Nat → zV → zL
  | [], _, _ => []
  | _ :: r, 0, v => some v :: r
  | q :: r, i + 1, v => zah i q :: zs1 r i v
def zs0 : zL → zL
  | [] => []
  | _ :: r => none :: r
def zs2 : zL → Nat → zV → zL
  | [], _, _ => []
  | _ :: r, 0, v => some v :: zs0 r
  | q :: r, i + 1, v => zah i q :: zs2 r i v
def zup {α : Type} (M : Nat → Nat → α) (k i : Nat) (v : α) : Nat → Nat → α := fun a => if a = k then vf_upd (M a) i v else M a
def zur {α : Type} (M : Nat → Nat → α) (k : Nat) (f : Nat → α) : Nat → Nat → α := fun a => if a = k then f else M a
def zin (i : Int32) (n : Nat) : Bool := decide (0 ≤ i.toInt) && decide (i.toInt < (n : Int))
def pI (st : List zV) (f : Int32 → List zV → Option zR) : Option zR := match st with
  | .inl y :: r => f y r
  | _ => none
def pJ (st : List zV) (f : Int64 → List zV → Option zR) : Option zR := match st with
  | .inr (.inl y) :: r => f y r
  | _ => none
def pQ (st : List zV) (f : Option zP → List zV → Option zR) : Option zR := match st with
  | .inr (.inr q) :: r => f q r
  | _ => none
def pP (st : List zV) (f : zK → Nat → List zV → Option zR) : Option zR := match st with
  | .inr (.inr (some q)) :: r => f q.1 q.2 r
  | _ => none
def lI (v : Option zV) (f : Int32 → Option zR) : Option zR := match v with
  | some (.inl y) => f y
  | _ => none
def lJ (v : Option zV) (f : Int64 → Option zR) : Option zR := match v with
  | some (.inr (.inl y)) => f y
  | _ => none
def lQ (v : Option zV) (f : Option zP → Option zR) : Option zR := match v with
  | some (.inr (.inr q)) => f q
  | _ => none
/-- an object of the class ci -/
def kO (κ : zK) (ci : Nat) (f : Option zR) : Option zR := match κ with
  | .inl c => if c = ci then f else none
  | _ => none
def kI (κ : zK) (f : Nat → Option zR) (g : Nat → Option zR) : Option zR := match κ with
  | .inr (.int, n) => f n
  | .inr (.float, n) => g n
  | _ => none
def kZ (κ : zK) (f : Nat → Option zR) : Option zR := match κ with
  | .inr (.boolean, n) => f n
  | _ => none
def kA (κ : zK) (f : FieldType → Nat → Option zR) : Option zR := match κ with
  | .inr (.object c, n) => f (.object c) n
  | .inr (.array c, n) => f (.array c) n
  | _ => none
def kLen (κ : zK) (f : Nat → Option zR) : Option zR := match κ with
  | .inr q => f q.2
  | _ => none
/-- the answer of a call: none, an int, a long, a reference -/
def cV (o : Option zR) (f : zS → Option zR) : Option zR := match o with
  | some (none, σ) => f σ
  | _ => none
def cI (o : Option zR) (f : Int32 → zS → Option zR) : Option zR := match o with
  | some (some (.inl y), σ) => f y σ
  | _ => none
def cJ (o : Option zR) (f : Int64 → zS → Option zR) : Option zR := match o with
  | some (some (.inr (.inl y)), σ) => f y σ
  | _ => none
def cQ (o : Option zR) (f : Option zP → zS → Option zR) : Option zR := match o with
  | some (some (.inr (.inr y)), σ) => f y σ
  | _ => none
def zpop : Nat → List zV → List zV → (List zV → List zV → Option zR) → Option zR
  | 0, st, acc, f => f acc st
  | n + 1, v :: r, acc, f => zpop n r (v :: acc) f
  | _ + 1, [], _, _ => none
def ztsw (k : Nat → Option zR) (y : Int32) (d : Nat) : Int32 → List Nat → Option zR
  | _, [] => k d
  | lo, t :: ts => if y = lo then k t else ztsw k y d (lo + 1) ts
def zlsw (k : Nat → Option zR) (y : Int32) (d : Nat) : List (Int32 × Nat) → Option zR
  | [] => k d
  | (lo, t) :: ts => if y = lo then k t else zlsw k y d ts
def zcat (st : List zV) : Nat := match st with
  | [] => 0
  | .inr (.inl _) :: r => 2 + zcat r
  | _ :: r => 1 + zcat r
/-- does an answer fit the method's type? -/
def zrt (ret : Option FieldType) (r : Option zV) : Bool := match ret, r with
  | none, none => true
  | some .int, some (.inl _) => true
  | some .boolean, some (.inl y) => decide (y = 0) || decide (y = 1)
  | some .long, some (.inr (.inl _)) => true
  | some (.object _), some (.inr (.inr _)) => true
  | _, _ => false
-- the fields of each class: none an int, some none a long, some (some (kind, d)) a reference to the cell d places behind
abbrev zF : Type := Option (Option zP)
def zel (t : FieldType) (k i : Nat) : zP := match t with
  | .object _ => (.inl 1, k + 1 + 8 * i)
  | _ => (.inr (.int, 40), k + 1 + i)
/-- the fields of each class -/
def zft : Nat → List zF
  | 0 => [some (some (.inr (.int, 16), 1)), none, none, none, none, none]
  | 1 => [none, none, none, none, none, some (some (.inr (.int, 4), 1)), some (some (.inr (.int, 4), 2)), some (some (.inr (.int, 6), 3)), some (some (.inr (.int, 6), 4)), some (some (.inr (.int, 6), 5)), some (some (.inr (.int, 6), 6)), some (some (.inr (.int, 6), 7))]
  | 2 => [some (some (.inl 1, 1)), some (some (.inr (.int, 12), 9)), none, none, none, none, none]
  | 3 => [some (some (.inl 1, 1)), some none, some none]
  | 4 => [some (some (.inr (.object RX1, 24), 1)), none, none]
  | 5 => [some (some (.inl 1, 1)), some (some (.inl 1, 9)), some (some (.inr (.int, 256), 17)), some (some (.inr (.int, 6), 18)), some (some (.inr (.int, 6), 19)), none, none, none, none, none, none, none]
  | 6 => [some (some (.inr (.array .int, 8), 1)), some (some (.inr (.int, 8), 10)), some (some (.inr (.int, 8), 11))]
  | 7 => [some (some (.inr (.int, 120), 1)), some (some (.inl 1, 2)), none, none, none, none, none, none, none, none, none]
  | 8 => [some (some (.inl 6, 1)), some (some (.inl 1, 13)), some (some (.inl 7, 21)), some (some (.inl 4, 31)), some (some (.inl 3, 225)), some (some (.inl 5, 234)), some (some (.inl 2, 254)), some (some (.inl 0, 264)), some (some (.inr (.object RX1, 2), 266)), none]
  | 9 => [none, none, some (some (.inr (.int, 8), 1)), some (some (.inr (.int, 8), 2)), some (some (.inr (.int, 320), 3)), some (some (.inr (.int, 43), 4)), some (some (.inr (.int, 43), 5)), some (some (.inr (.int, 43), 6)), some (some (.inr (.int, 1032), 7)), none, some (some (.inr (.int, 120), 8)), none, none, none, none, none, none, none, none, some (some (.inr (.int, 6), 9)), some (some (.inr (.int, 6), 10)), some (some (.inr (.int, 4), 11)), some (some (.inr (.boolean, 2), 12)), some (some (.inr (.int, 86), 13)), some (some (.inr (.int, 16), 14)), none]
  | _ => []
def zfl (ci fi : Nat) : Option zF := match zft ci with
  | l => l[fi]?
def zinv (C : Nat → List zV → zS → Option zR) (k : Nat → zL → List zV → zS → Option zR) (pc : Nat) (ls : zL) (st : List zV) (σ : zS) (y b : Nat) : Option zR :=
  zpop (b / 4) st [] fun args r => match Nat.ble (zcat r) 8 with
    | false => none
    | true => match b % 4 with
      | 0 => cV (C y args σ) fun σ' => k (pc + 3) ls r σ'
      | 1 => cI (C y args σ) fun v σ' => k (pc + 3) ls (.inl v :: r) σ'
      | 2 => cJ (C y args σ) fun v σ' => k (pc + 3) ls (.inr (.inl v) :: r) σ'
      | _ => cQ (C y args σ) fun v σ' => k (pc + 3) ls (.inr (.inr v) :: r) σ'
/-- System.arraycopy over two int arrays of the world -/
def zcopy (k : Nat → zL → List zV → zS → Option zR) (pc : Nat) (ls : zL) (st : List zV) (σ : zS) : Option zR :=
  pI st fun n r => pI r fun dp r => pP r fun κ1 k1 r => pI r fun sp r => pP r fun κ0 k0 r => match Nat.ble (zcat r) 8 with
    | false => none
    | true => kI κ0 (fun n0 => kI κ1 (fun n1 => match decide (0 ≤ n.toInt) && (decide (0 ≤ sp.toInt) && (decide (0 ≤ dp.toInt) && (decide (sp.toInt + n.toInt ≤ (n0 : Int)) && decide (dp.toInt + n.toInt ≤ (n1 : Int))))) with
      | false => none
      | true => k (pc + 3) ls r (σ.1, σ.2.1, zur σ.2.2.1 k1 (va_cpy (σ.2.2.1 k0) (σ.2.2.1 k1) sp.toNatClampNeg dp.toNatClampNeg n.toNatClampNeg), σ.2.2.2)) (fun _ => none)) (fun _ => none)
def zdup (st : List zV) (f : List zV → Option zR) : Option zR := match st with
  | .inl y :: r => f (.inl y :: .inl y :: r)
  | .inr (.inr q) :: r => f (.inr (.inr q) :: .inr (.inr q) :: r)
  | _ => none
def zdup2 (st : List zV) (f : List zV → Option zR) : Option zR := match st with
  | .inl y :: .inr (.inr q) :: r => f (.inl y :: .inr (.inr q) :: .inl y :: .inr (.inr q) :: r)
  | _ => none
def zret (ret : Option FieldType) (r : Option zV) (σ : zS) : Option zR := match zrt ret r with
  | true => some (r, σ)
  | false => none
/-- a new cell at the end -/
def znew (σ : zS) (κ : zK) : zS := (σ.1 ++ [κ], zur σ.2.1 σ.1.length (fun _ => false), zur σ.2.2.1 σ.1.length (fun _ => 0), zur σ.2.2.2 σ.1.length (fun _ => 0))
/-- new int[n][40] -/
def znew2 (σ : zS) (n : Nat) : zS := (σ.1 ++ (.inr (.array .int, n) :: List.replicate n (.inr (.int, 40))), (fun a i => if a = σ.1.length then true else if σ.1.length < a then false else σ.2.1 a i), (fun a i => if σ.1.length ≤ a then 0 else σ.2.2.1 a i), (fun a i => if σ.1.length ≤ a then 0 else σ.2.2.2 a i))
def zgetf (k : Nat → zL → List zV → zS → Option zR) (pc : Nat) (ls : zL) (st : List zV) (σ : zS) (a b : Nat) : Option zR :=
  pP st fun κ o r => kO κ a (match zfl a b with
    | some none => k (pc + 3) ls (.inl (σ.2.2.1 o b) :: r) σ
    | some (some none) => k (pc + 3) ls (.inr (.inl (σ.2.2.2 o b)) :: r) σ
    | some (some (some q)) => match σ.2.1 o b with
      | true => k (pc + 3) ls (.inr (.inr (some (q.1, o + q.2))) :: r) σ
      | false => none
    | none => none)
def zputf (k : Nat → zL → List zV → zS → Option zR) (pc : Nat) (ls : zL) (st : List zV) (σ : zS) (a b : Nat) : Option zR :=
  match zfl a b with
    | some none => pI st fun y r => pP r fun κ o r => kO κ a (k (pc + 3) ls r (σ.1, σ.2.1, zup σ.2.2.1 o b y, σ.2.2.2))
    | some (some none) => pJ st fun y r => pP r fun κ o r => kO κ a (k (pc + 3) ls r (σ.1, σ.2.1, σ.2.2.1, zup σ.2.2.2 o b y))
    | some (some (some q)) => pP st fun κ1 o1 r => pP r fun κ o r => kO κ a (if κ1 = q.1 ∧ o1 = o + q.2 then k (pc + 3) ls r (σ.1, zup σ.2.1 o b true, σ.2.2) else none)
    | none => none
def zins (X : Nat → Nat → Int32) (C : Nat → List zV → zS → Option zR) (ret : Option FieldType) (k : Nat → zL → List zV → zS → Option zR) (pc : Nat) (ls : zL) (st : List zV) (σ : zS) (a b : Nat) (v : Int32) (w : Int64) : Instr → Option zR
  | .iconst _ => k (pc + 1) ls (.inl v :: st) σ
  | .bipush _ => k (pc + 2) ls (.inl v :: st) σ
  | .sipush _ => k (pc + 3) ls (.inl v :: st) σ
  | .ldc _ => k (pc + 2) ls (.inl v :: st) σ
  | .ldc_w _ => k (pc + 3) ls (.inl v :: st) σ
  | .lconst _ => k (pc + 1) ls (.inr (.inl w) :: st) σ
  | .ldc2_w _ => k (pc + 3) ls (.inr (.inl w) :: st) σ
  | .aconst_null => k (pc + 1) ls (.inr (.inr none) :: st) σ
  | .iload _ => lI (zg ls a) fun y => k (pc + 2) ls (.inl y :: st) σ
  | .iload_n _ => lI (zg ls a) fun y => k (pc + 1) ls (.inl y :: st) σ
  | .lload _ => lJ (zg ls a) fun y => k (pc + 2) ls (.inr (.inl y) :: st) σ
  | .lload_n _ => lJ (zg ls a) fun y => k (pc + 1) ls (.inr (.inl y) :: st) σ
  | .aload _ => lQ (zg ls a) fun y => k (pc + 2) ls (.inr (.inr y) :: st) σ
  | .aload_n _ => lQ (zg ls a) fun y => k (pc + 1) ls (.inr (.inr y) :: st) σ
  | .istore _ => pI st fun y r => k (pc + 2) (zs1 ls a (.inl y)) r σ
  | .istore_n _ => pI st fun y r => k (pc + 1) (zs1 ls a (.inl y)) r σ
  | .lstore _ => pJ st fun y r => k (pc + 2) (zs2 ls a (.inr (.inl y))) r σ
  | .lstore_n _ => pJ st fun y r => k (pc + 1) (zs2 ls a (.inr (.inl y))) r σ
  | .astore _ => pQ st fun y r => k (pc + 2) (zs1 ls a (.inr (.inr y))) r σ
  | .astore_n _ => pQ st fun y r => k (pc + 1) (zs1 ls a (.inr (.inr y))) r σ
  | .iinc _ _ => lI (zg ls a) fun y => k (pc + 3) (zs1 ls a (.inl (y + v))) st σ
  | .iadd => pI st fun y r => pI r fun z r => k (pc + 1) ls (.inl (z + y) :: r) σ
  | .isub => pI st fun y r => pI r fun z r => k (pc + 1) ls (.inl (z - y) :: r) σ
  | .imul => pI st fun y r => pI r fun z r => k (pc + 1) ls (.inl (z * y) :: r) σ
  | .iand => pI st fun y r => pI r fun z r => k (pc + 1) ls (.inl (z &&& y) :: r) σ
  | .ior => pI st fun y r => pI r fun z r => k (pc + 1) ls (.inl (z ||| y) :: r) σ
  | .ixor => pI st fun y r => pI r fun z r => k (pc + 1) ls (.inl (z ^^^ y) :: r) σ
  | .ishl => pI st fun y r => pI r fun z r => k (pc + 1) ls (.inl (z <<< (y &&& 31)) :: r) σ
  | .ishr => pI st fun y r => pI r fun z r => k (pc + 1) ls (.inl (z >>> (y &&& 31)) :: r) σ
  | .iushr => pI st fun y r => pI r fun z r => k (pc + 1) ls (.inl ((z.toUInt32 >>> (y.toUInt32 &&& Int32.toUInt32 31)).toInt32) :: r) σ
  | .idiv => pI st fun y r => pI r fun z r => if y = 0 then none else k (pc + 1) ls (.inl (z / y) :: r) σ
  | .irem => pI st fun y r => pI r fun z r => if y = 0 then none else k (pc + 1) ls (.inl (z - z / y * y) :: r) σ
  | .ineg => pI st fun y r => k (pc + 1) ls (.inl (-y) :: r) σ
  | .ladd => pJ st fun y r => pJ r fun z r => k (pc + 1) ls (.inr (.inl (z + y)) :: r) σ
  | .lsub => pJ st fun y r => pJ r fun z r => k (pc + 1) ls (.inr (.inl (z - y)) :: r) σ
  | .lmul => pJ st fun y r => pJ r fun z r => k (pc + 1) ls (.inr (.inl (z * y)) :: r) σ
  | .ldiv => pJ st fun y r => pJ r fun z r => if y = 0 then none else k (pc + 1) ls (.inr (.inl (z / y)) :: r) σ
  | .lrem => pJ st fun y r => pJ r fun z r => if y = 0 then none else k (pc + 1) ls (.inr (.inl (z - z / y * y)) :: r) σ
  | .lcmp => pJ st fun y r => pJ r fun z r => k (pc + 1) ls (.inl (lg_cmp z y) :: r) σ
  | .i2l => pI st fun y r => k (pc + 1) ls (.inr (.inl y.toInt64) :: r) σ
  | .l2i => pJ st fun y r => k (pc + 1) ls (.inl y.toInt32 :: r) σ
  | .i2b => pI st fun y r => k (pc + 1) ls (.inl y.toInt8.toInt32 :: r) σ
  | .i2s => pI st fun y r => k (pc + 1) ls (.inl y.toInt16.toInt32 :: r) σ
  | .dup => zdup st fun r => k (pc + 1) ls r σ
  | .dup2 => zdup2 st fun r => k (pc + 1) ls r σ
  | .goto _ => k a ls st σ
  | .ifCond .eq _ => pI st fun y r => if y = 0 then k a ls r σ else k (pc + 3) ls r σ
  | .ifCond .ne _ => pI st fun y r => if y = 0 then k (pc + 3) ls r σ else k a ls r σ
  | .ifCond .lt _ => pI st fun y r => if y < 0 then k a ls r σ else k (pc + 3) ls r σ
  | .ifCond .ge _ => pI st fun y r => if 0 ≤ y then k a ls r σ else k (pc + 3) ls r σ
  | .ifCond .gt _ => pI st fun y r => if 0 < y then k a ls r σ else k (pc + 3) ls r σ
  | .ifCond .le _ => pI st fun y r => if y ≤ 0 then k a ls r σ else k (pc + 3) ls r σ
  | .if_icmp .eq _ => pI st fun y r => pI r fun z r => if z = y then k a ls r σ else k (pc + 3) ls r σ
  | .if_icmp .ne _ => pI st fun y r => pI r fun z r => if z = y then k (pc + 3) ls r σ else k a ls r σ
  | .if_icmp .lt _ => pI st fun y r => pI r fun z r => if z < y then k a ls r σ else k (pc + 3) ls r σ
  | .if_icmp .ge _ => pI st fun y r => pI r fun z r => if y ≤ z then k a ls r σ else k (pc + 3) ls r σ
  | .if_icmp .gt _ => pI st fun y r => pI r fun z r => if y < z then k a ls r σ else k (pc + 3) ls r σ
  | .if_icmp .le _ => pI st fun y r => pI r fun z r => if z ≤ y then k a ls r σ else k (pc + 3) ls r σ
  | .ifnull _ => pQ st fun q r => match q with
    | none => k a ls r σ
    | some _ => k (pc + 3) ls r σ
  | .ifnonnull _ => pQ st fun q r => match q with
    | none => k (pc + 3) ls r σ
    | some _ => k a ls r σ
  | .tableswitch _ _ _ offs => pI st fun y r => ztsw (fun t => k t ls r σ) y a v (offs.toList.map fun o => ((pc : Int) + o).toNat)
  | .lookupswitch _ ps => pI st fun y r => zlsw (fun t => k t ls r σ) y a (ps.toList.map fun q => (Int32.ofInt q.1, ((pc : Int) + q.2).toNat))
  | .getfield _ => zgetf k pc ls st σ a b
  | .putfield _ => zputf k pc ls st σ a b
  | .getstatic _ => k (pc + 3) ls (.inr (.inr (some (.inr (.float, 6), a))) :: st) σ
  | .iaload => pI st fun i r => pP r fun κ o r => kI κ
      (fun n => match zin i n with
        | true => k (pc + 1) ls (.inl (σ.2.2.1 o i.toNatClampNeg) :: r) σ
        | false => none)
      (fun n => match zin i n with
        | true => k (pc + 1) ls (.inl (X o i.toNatClampNeg) :: r) σ
        | false => none)
  | .iastore => pI st fun y r => pI r fun i r => pP r fun κ o r => kI κ
      (fun n => match zin i n with
        | true => k (pc + 1) ls r (σ.1, σ.2.1, zup σ.2.2.1 o i.toNatClampNeg y, σ.2.2.2)
        | false => none)
      (fun _ => none)
  | .baload => pI st fun i r => pP r fun κ o r => kZ κ
      (fun n => match zin i n with
        | true => k (pc + 1) ls (.inl (σ.2.2.1 o i.toNatClampNeg) :: r) σ
        | false => none)
  | .bastore => pI st fun y r => pI r fun i r => pP r fun κ o r => kZ κ
      (fun n => match zin i n with
        | true => k (pc + 1) ls r (σ.1, σ.2.1, zup σ.2.2.1 o i.toNatClampNeg (vp_nar .boolean y), σ.2.2.2)
        | false => none)
  | .aaload => pI st fun i r => pP r fun κ o r => kA κ
      (fun t n => match zin i n with
        | true => match σ.2.1 o i.toNatClampNeg with
          | true => k (pc + 1) ls (.inr (.inr (some (zel t o i.toNatClampNeg))) :: r) σ
          | false => none
        | false => none)
  | .aastore => pP st fun κ1 o1 r => pI r fun i r => pP r fun κ o r => kA κ
      (fun t n => match zin i n, t with
        | true, .object _ => if (κ1, o1) = zel t o i.toNatClampNeg then k (pc + 1) ls r (σ.1, zup σ.2.1 o i.toNatClampNeg true, σ.2.2) else none
        | _, _ => none)
  | .arraylength => pP st fun κ _ r => kLen κ fun n => k (pc + 1) ls (.inl (Int32.ofNat n) :: r) σ
  | .new _ => k (pc + 3) ls (.inr (.inr (some (.inl a, σ.1.length))) :: st) (znew σ (.inl a))
  | .newarray .int => pI st fun n r => match zin n 2000 with
    | true => k (pc + 2) ls (.inr (.inr (some (.inr (.int, n.toNatClampNeg), σ.1.length))) :: r) (znew σ (.inr (.int, n.toNatClampNeg)))
    | false => none
  | .newarray .boolean => pI st fun n r => match zin n 2000 with
    | true => k (pc + 2) ls (.inr (.inr (some (.inr (.boolean, n.toNatClampNeg), σ.1.length))) :: r) (znew σ (.inr (.boolean, n.toNatClampNeg)))
    | false => none
  | .anewarray _ => pI st fun n r => match zin n 2000 with
    | true => k (pc + 3) ls (.inr (.inr (some (.inr (.object RX1, n.toNatClampNeg), σ.1.length))) :: r) (znew σ (.inr (.object RX1, n.toNatClampNeg)))
    | false => none
  | .multianewarray _ _ => pI st fun m r => pI r fun n r => match zin n 2000 && decide (m = 40) with
    | true => k (pc + 4) ls (.inr (.inr (some (.inr (.array .int, n.toNatClampNeg), σ.1.length))) :: r) (znew2 σ n.toNatClampNeg)
    | false => none
  | .invokevirtual _ => match a with
    | 0 => none
    | y + 1 => zinv C k pc ls st σ y b
  | .invokestatic _ => match a with
    | 0 => zcopy k pc ls st σ
    | y + 1 => zinv C k pc ls st σ y b
  | .invokespecial _ => match a with
    | 0 => pP st fun _ _ r => match Nat.ble (zcat r) 8 with
      | true => k (pc + 3) ls r σ
      | false => none
    | y + 1 => zinv C k pc ls st σ y b
  | .ireturn => match st with
    | [.inl y] => zret ret (some (.inl y)) σ
    | _ => none
  | .lreturn => match st with
    | [.inr (.inl y)] => zret ret (some (.inr (.inl y))) σ
    | _ => none
  | .areturn => match st with
    | [.inr (.inr y)] => zret ret (some (.inr (.inr y))) σ
    | _ => none
  | .return_ => match st with
    | [] => zret ret none σ
    | _ => none
  | _ => none
def zone (X : Nat → Nat → Int32) (C : Nat → List zV → zS → Option zR) (ret : Option FieldType) (cd : zC) (k : Nat → zL → List zV → zS → Option zR) (pc : Nat) (ls : zL) (st : List zV) (σ : zS) : Option zR := match zat cd pc with
  | none => none
  | some q => zins X C ret k pc ls st σ q.2.1 q.2.2.1 q.2.2.2.1 q.2.2.2.2.1 q.1
def zden (X : Nat → Nat → Int32) (C : Nat → List zV → zS → Option zR) (ret : Option FieldType) (cd : zC) : Nat → Nat → zL → List zV → zS → Option zR
  | 0 => fun _ _ _ _ => none
  | n + 1 => zone X C ret cd (zden X C ret cd n)
end
section
/-! ===== the pure machine's runs, without a count of steps ===== -/
abbrev zk : Type := Nat → zL → List zV → zS → Option zR
/-- one step either ends, whatever comes behind it, or goes on at one place -/
def zSh (F : zk → Option zR) : Prop := (∃ o, ∀ k, F k = o) ∨ (∃ (pc : Nat) (ls : zL) (st : List zV) (σ : zS), ∀ k, F k = k pc ls st σ)
theorem zSh_c (o : Option zR) : zSh (fun _ => o) := Or.inl ⟨o, fun _ => rfl⟩
theorem zSh_k (pc : Nat) (ls : zL) (st : List zV) (σ : zS) : zSh (fun k => k pc ls st σ) := Or.inr ⟨pc, ls, st, σ, fun _ => rfl⟩
theorem zSh_i (c : Prop) [Decidable c] {F G : zk → Option zR} (h1 : zSh F) (h2 : zSh G) : zSh (fun k => if c then F k else G k) := by
  by_cases h : c
  · simp only [if_pos h]; exact h1
  · simp only [if_neg h]; exact h2
theorem zSh_pI (st : List zV) {f : zk → Int32 → List zV → Option zR} (h : ∀ y r, zSh (fun k => f k y r)) : zSh (fun k => pI st (f k)) := by
  rcases st with _ | ⟨v, r⟩
  · exact zSh_c none
  · rcases v with y | v
    · exact h y r
    · exact zSh_c none
theorem zSh_pJ (st : List zV) {f : zk → Int64 → List zV → Option zR} (h : ∀ y r, zSh (fun k => f k y r)) : zSh (fun k => pJ st (f k)) := by
  rcases st with _ | ⟨v, r⟩
  · exact zSh_c none
  · rcases v with y | y | y
    · exact zSh_c none
    · exact h y r
    · exact zSh_c none
theorem zSh_pQ (st : List zV) {f : zk → Option zP → List zV → Option zR} (h : ∀ y r, zSh (fun k => f k y r)) : zSh (fun k => pQ st (f k)) := by
  rcases st with _ | ⟨v, r⟩
  · exact zSh_c none
  · rcases v with y | y | y
    · exact zSh_c none
    · exact zSh_c none
    · exact h y r
theorem zSh_pP (st : List zV) {f : zk → zK → Nat → List zV → Option zR} (h : ∀ y o r, zSh (fun k => f k y o r)) : zSh (fun k => pP st (f k)) := by
  rcases st with _ | ⟨v, r⟩
  · exact zSh_c none
  · rcases v with y | y | y | y
    · exact zSh_c none
    · exact zSh_c none
    · exact zSh_c none
    · exact h y.1 y.2 r
theorem zSh_lI (v : Option zV) {f : zk → Int32 → Option zR} (h : ∀ y, zSh (fun k => f k y)) : zSh (fun k => lI v (f k)) := by
  rcases v with _ | y | y | y
  · exact zSh_c none
  · exact h y
  · exact zSh_c none
  · exact zSh_c none
theorem zSh_lJ (v : Option zV) {f : zk → Int64 → Option zR} (h : ∀ y, zSh (fun k => f k y)) : zSh (fun k => lJ v (f k)) := by
  rcases v with _ | y | y | y
  · exact zSh_c none
  · exact zSh_c none
  · exact h y
  · exact zSh_c none
theorem zSh_lQ (v : Option zV) {f : zk → Option zP → Option zR} (h : ∀ y, zSh (fun k => f k y)) : zSh (fun k => lQ v (f k)) := by
  rcases v with _ | y | y | y
  · exact zSh_c none
  · exact zSh_c none
  · exact zSh_c none
  · exact h y
theorem zSh_b (b : Bool) {F G : zk → Option zR} (h1 : zSh F) (h2 : zSh G) : zSh (fun k => match b with | true => F k | false => G k) := by
  cases b
  · exact h2
  · exact h1
theorem zSh_kO (κ : zK) (ci : Nat) {f : zk → Option zR} (h : zSh f) : zSh (fun k => kO κ ci (f k)) := by
  rcases κ with c | q
  · exact zSh_i (c = ci) h (zSh_c none)
  · exact zSh_c none
theorem zSh_kI (κ : zK) {f g : zk → Nat → Option zR} (h : ∀ n, zSh (fun k => f k n)) (h2 : ∀ n, zSh (fun k => g k n)) : zSh (fun k => kI κ (f k) (g k)) := by
  rcases κ with c | ⟨t, n⟩
  · exact zSh_c none
  · cases t <;> first | exact h n | exact h2 n | exact zSh_c none
theorem zSh_kZ (κ : zK) {f : zk → Nat → Option zR} (h : ∀ n, zSh (fun k => f k n)) : zSh (fun k => kZ κ (f k)) := by
  rcases κ with c | ⟨t, n⟩
  · exact zSh_c none
  · cases t <;> first | exact h n | exact zSh_c none
theorem zSh_kA (κ : zK) {f : zk → FieldType → Nat → Option zR} (h : ∀ t n, zSh (fun k => f k t n)) : zSh (fun k => kA κ (f k)) := by
  rcases κ with c | ⟨t, n⟩
  · exact zSh_c none
  · cases t <;> first | exact h _ n | exact zSh_c none
theorem zSh_kLen (κ : zK) {f : zk → Nat → Option zR} (h : ∀ n, zSh (fun k => f k n)) : zSh (fun k => kLen κ (f k)) := by
  rcases κ with c | ⟨t, n⟩
  · exact zSh_c none
  · exact h n
theorem zSh_cV (o : Option zR) {f : zk → zS → Option zR} (h : ∀ σ, zSh (fun k => f k σ)) : zSh (fun k => cV o (f k)) := by
  rcases o with _ | ⟨_ | v, σ⟩
  · exact zSh_c none
  · exact h σ
  · exact zSh_c none
theorem zSh_cI (o : Option zR) {f : zk → Int32 → zS → Option zR} (h : ∀ y σ, zSh (fun k => f k y σ)) : zSh (fun k => cI o (f k)) := by
  rcases o with _ | ⟨_ | y | y | y, σ⟩
  · exact zSh_c none
  · exact zSh_c none
  · exact h y σ
  · exact zSh_c none
  · exact zSh_c none
theorem zSh_cJ (o : Option zR) {f : zk → Int64 → zS → Option zR} (h : ∀ y σ, zSh (fun k => f k y σ)) : zSh (fun k => cJ o (f k)) := by
  rcases o with _ | ⟨_ | y | y | y, σ⟩
  · exact zSh_c none
  · exact zSh_c none
  · exact zSh_c none
  · exact h y σ
  · exact zSh_c none
theorem zSh_cQ (o : Option zR) {f : zk → Option zP → zS → Option zR} (h : ∀ y σ, zSh (fun k => f k y σ)) : zSh (fun k => cQ o (f k)) := by
  rcases o with _ | ⟨_ | y | y | y, σ⟩
  · exact zSh_c none
  · exact zSh_c none
  · exact zSh_c none
  · exact zSh_c none
  · exact h y σ
theorem zSh_pop {f : zk → List zV → List zV → Option zR} (h : ∀ a r, zSh (fun k => f k a r)) : ∀ (n : Nat) (st acc : List zV), zSh (fun k => zpop n st acc (f k))
  | 0, st, acc => h acc st
  | n + 1, v :: r, acc => zSh_pop h n r (v :: acc)
  | n + 1, [], acc => zSh_c none
theorem zSh_tsw (y : Int32) (d : Nat) {f : zk → Nat → Option zR} (h : ∀ t, zSh (fun k => f k t)) : ∀ (ts : List Nat) (lo : Int32), zSh (fun k => ztsw (f k) y d lo ts)
  | [], lo => h d
  | t :: ts, lo => zSh_i (y = lo) (h t) (zSh_tsw y d h ts (lo + 1))
theorem zSh_lsw (y : Int32) (d : Nat) {f : zk → Nat → Option zR} (h : ∀ t, zSh (fun k => f k t)) : ∀ (ts : List (Int32 × Nat)), zSh (fun k => zlsw (f k) y d ts)
  | [] => h d
  | (lo, t) :: ts => zSh_i (y = lo) (h t) (zSh_lsw y d h ts)
theorem zSh_dup (st : List zV) {f : zk → List zV → Option zR} (h : ∀ r, zSh (fun k => f k r)) : zSh (fun k => zdup st (f k)) := by
  rcases st with _ | ⟨y | y | y, r⟩
  · exact zSh_c none
  · exact h _
  · exact zSh_c none
  · exact h _
theorem zSh_dup2 (st : List zV) {f : zk → List zV → Option zR} (h : ∀ r, zSh (fun k => f k r)) : zSh (fun k => zdup2 st (f k)) := by
  rcases st with _ | ⟨y | y | y, _ | ⟨z | z | z, r⟩⟩
  all_goals first | exact h _ | exact zSh_c none
theorem zSh_inv (C : Nat → List zV → zS → Option zR) (pc : Nat) (ls : zL) (st : List zV) (σ : zS) (y b : Nat) : zSh (fun k => zinv C k pc ls st σ y b) := by
  unfold zinv
  refine zSh_pop (fun a r => ?_) _ _ _
  generalize Nat.ble (zcat r) 8 = q
  cases q
  · exact zSh_c none
  · rcases b % 4 with _ | _ | _ | n
    · exact zSh_cV _ (fun σ => zSh_k _ _ _ _)
    · exact zSh_cI _ (fun y σ => zSh_k _ _ _ _)
    · exact zSh_cJ _ (fun y σ => zSh_k _ _ _ _)
    · exact zSh_cQ _ (fun y σ => zSh_k _ _ _ _)
theorem zSh_copy (pc : Nat) (ls : zL) (st : List zV) (σ : zS) : zSh (fun k => zcopy k pc ls st σ) := by
  unfold zcopy
  refine zSh_pI _ (fun n r => zSh_pI _ (fun dp r => zSh_pP _ (fun κ1 k1 r => zSh_pI _ (fun sp r => zSh_pP _ (fun κ0 k0 r => ?_)))))
  generalize Nat.ble (zcat r) 8 = q
  cases q
  · exact zSh_c none
  · refine zSh_kI _ (fun n0 => zSh_kI _ (fun n1 => ?_) (fun _ => zSh_c none)) (fun _ => zSh_c none)
    generalize (decide (0 ≤ n.toInt) && (decide (0 ≤ sp.toInt) && (decide (0 ≤ dp.toInt) && (decide (sp.toInt + n.toInt ≤ (n0 : Int)) && decide (dp.toInt + n.toInt ≤ (n1 : Int)))))) = q
    cases q
    · exact zSh_c none
    · exact zSh_k _ _ _ _
theorem zSh_getf (pc : Nat) (ls : zL) (st : List zV) (σ : zS) (a b : Nat) : zSh (fun k => zgetf k pc ls st σ a b) := by
  unfold zgetf
  refine zSh_pP _ (fun κ o r => zSh_kO _ _ ?_)
  rcases zfl a b with _ | _ | _ | q
  · exact zSh_c none
  · exact zSh_k _ _ _ _
  · exact zSh_k _ _ _ _
  · show zSh (fun k => match σ.2.1 o b with | true => k (pc + 3) ls (.inr (.inr (some (q.1, o + q.2))) :: r) σ | false => none)
    generalize σ.2.1 o b = z
    cases z
    · exact zSh_c none
    · exact zSh_k _ _ _ _
theorem zSh_putf (pc : Nat) (ls : zL) (st : List zV) (σ : zS) (a b : Nat) : zSh (fun k => zputf k pc ls st σ a b) := by
  unfold zputf
  rcases zfl a b with _ | _ | _ | q
  · exact zSh_c none
  · exact zSh_pI _ (fun y r => zSh_pP _ (fun κ o r => zSh_kO _ _ (zSh_k _ _ _ _)))
  · exact zSh_pJ _ (fun y r => zSh_pP _ (fun κ o r => zSh_kO _ _ (zSh_k _ _ _ _)))
  · exact zSh_pP _ (fun κ1 o1 r => zSh_pP _ (fun κ o r => zSh_kO _ _ (zSh_i _ (zSh_k _ _ _ _) (zSh_c none))))
set_option maxHeartbeats 4000000 in
theorem zSh_ins (X : Nat → Nat → Int32) (C : Nat → List zV → zS → Option zR) (ret : Option FieldType) (pc : Nat) (ls : zL) (st : List zV) (σ : zS) (a b : Nat) (v : Int32) (w : Int64) (ins : Instr) : zSh (fun k => zins X C ret k pc ls st σ a b v w ins) := by
  cases ins
  case iload i => exact zSh_lI _ (fun y => zSh_k _ _ _ _)
  case iload_n i => exact zSh_lI _ (fun y => zSh_k _ _ _ _)
  case lload i => exact zSh_lJ _ (fun y => zSh_k _ _ _ _)
  case lload_n i => exact zSh_lJ _ (fun y => zSh_k _ _ _ _)
  case aload i => exact zSh_lQ _ (fun y => zSh_k _ _ _ _)
  case aload_n i => exact zSh_lQ _ (fun y => zSh_k _ _ _ _)
  case iinc i j => exact zSh_lI _ (fun y => zSh_k _ _ _ _)
  case idiv => exact zSh_pI _ (fun y r => zSh_pI _ (fun z r => zSh_i _ (zSh_c none) (zSh_k _ _ _ _)))
  case irem => exact zSh_pI _ (fun y r => zSh_pI _ (fun z r => zSh_i _ (zSh_c none) (zSh_k _ _ _ _)))
  case ldiv => exact zSh_pJ _ (fun y r => zSh_pJ _ (fun z r => zSh_i _ (zSh_c none) (zSh_k _ _ _ _)))
  case lrem => exact zSh_pJ _ (fun y r => zSh_pJ _ (fun z r => zSh_i _ (zSh_c none) (zSh_k _ _ _ _)))
  case dup => exact zSh_dup (f := fun k r => k (pc + 1) ls r σ) st (fun r => zSh_k _ _ _ _)
  case dup2 => exact zSh_dup2 (f := fun k r => k (pc + 1) ls r σ) st (fun r => zSh_k _ _ _ _)
  case ifCond c o => cases c <;> exact zSh_pI _ (fun y r => zSh_i _ (zSh_k _ _ _ _) (zSh_k _ _ _ _))
  case if_icmp c o => cases c <;> exact zSh_pI _ (fun y r => zSh_pI _ (fun z r => zSh_i _ (zSh_k _ _ _ _) (zSh_k _ _ _ _)))
  case ifnull o => exact zSh_pQ _ (fun y r => by cases y <;> exact zSh_k _ _ _ _)
  case ifnonnull o => exact zSh_pQ _ (fun y r => by cases y <;> exact zSh_k _ _ _ _)
  case tableswitch d lo hi offs => exact zSh_pI _ (fun y r => zSh_tsw _ _ (fun t => zSh_k _ _ _ _) _ _)
  case lookupswitch d ps => exact zSh_pI _ (fun y r => zSh_lsw _ _ (fun t => zSh_k _ _ _ _) _)
  case getfield i => exact zSh_getf _ _ _ _ _ _
  case putfield i => exact zSh_putf _ _ _ _ _ _
  case iaload => exact zSh_pI _ (fun i r => zSh_pP _ (fun κ o r => zSh_kI _ (fun n => zSh_b (zin i n) (zSh_k _ _ _ _) (zSh_c none)) (fun n => zSh_b (zin i n) (zSh_k _ _ _ _) (zSh_c none))))
  case iastore => exact zSh_pI _ (fun y r => zSh_pI _ (fun i r => zSh_pP _ (fun κ o r => zSh_kI _ (fun n => zSh_b (zin i n) (zSh_k _ _ _ _) (zSh_c none)) (fun n => zSh_c none))))
  case baload => exact zSh_pI _ (fun i r => zSh_pP _ (fun κ o r => zSh_kZ _ (fun n => zSh_b (zin i n) (zSh_k _ _ _ _) (zSh_c none))))
  case bastore => exact zSh_pI _ (fun y r => zSh_pI _ (fun i r => zSh_pP _ (fun κ o r => zSh_kZ _ (fun n => zSh_b (zin i n) (zSh_k _ _ _ _) (zSh_c none)))))
  case aaload => exact zSh_pI _ (fun i r => zSh_pP _ (fun κ o r => zSh_kA _ (fun t n => by
    show zSh (fun k => match zin i n with | true => (match σ.2.1 o i.toNatClampNeg with | true => k (pc + 1) ls (.inr (.inr (some (zel t o i.toNatClampNeg))) :: r) σ | false => none) | false => none)
    generalize zin i n = q
    generalize σ.2.1 o i.toNatClampNeg = q2
    cases q <;> cases q2 <;> first | exact zSh_k _ _ _ _ | exact zSh_c none)))
  case aastore =>
    show zSh (fun k => pP st fun κ1 o1 r => pI r fun i r => pP r fun κ o r => kA κ (fun t n => match zin i n, t with
        | true, .object _ => if (κ1, o1) = zel t o i.toNatClampNeg then k (pc + 1) ls r (σ.1, zup σ.2.1 o i.toNatClampNeg true, σ.2.2) else none
        | _, _ => none))
    refine zSh_pP _ (fun κ1 o1 r => zSh_pI _ (fun i r => zSh_pP _ (fun κ o r => zSh_kA _ (fun t n => ?_))))
    generalize zin i n = q
    cases q <;> cases t <;> first | exact zSh_i _ (zSh_k _ _ _ _) (zSh_c none) | exact zSh_c none
  case arraylength => exact zSh_pP (f := fun k κ _ r => kLen κ fun n => k (pc + 1) ls (.inl (Int32.ofNat n) :: r) σ) st (fun κ o r => zSh_kLen _ (fun n => zSh_k _ _ _ _))
  case newarray t => cases t <;> first | exact zSh_c none | exact zSh_pI _ (fun n r => zSh_b (zin n 2000) (zSh_k _ _ _ _) (zSh_c none))
  case anewarray t => exact zSh_pI _ (fun n r => zSh_b (zin n 2000) (zSh_k _ _ _ _) (zSh_c none))
  case multianewarray t q => exact zSh_pI _ (fun m r => zSh_pI _ (fun n r => zSh_b (zin n 2000 && decide (m = 40)) (zSh_k _ _ _ _) (zSh_c none)))
  case invokevirtual i => cases a with
    | zero => exact zSh_c none
    | succ y => exact zSh_inv _ _ _ _ _ _ _
  case invokestatic i => cases a with
    | zero => exact zSh_copy _ _ _ _
    | succ y => exact zSh_inv _ _ _ _ _ _ _
  case invokespecial i => cases a with
    | zero => exact zSh_pP (f := fun k _ _ r => match Nat.ble (zcat r) 8 with | true => k (pc + 3) ls r σ | false => none) st (fun κ o r => zSh_b (Nat.ble (zcat r) 8) (zSh_k _ _ _ _) (zSh_c none))
    | succ y => exact zSh_inv _ _ _ _ _ _ _
  case istore i => exact zSh_pI _ (fun y r => zSh_k _ _ _ _)
  case istore_n i => exact zSh_pI _ (fun y r => zSh_k _ _ _ _)
  case lstore i => exact zSh_pJ _ (fun y r => zSh_k _ _ _ _)
  case lstore_n i => exact zSh_pJ _ (fun y r => zSh_k _ _ _ _)
  case astore i => exact zSh_pQ _ (fun y r => zSh_k _ _ _ _)
  case astore_n i => exact zSh_pQ _ (fun y r => zSh_k _ _ _ _)
  case iadd => exact zSh_pI _ (fun y r => zSh_pI _ (fun z r => zSh_k _ _ _ _))
  case isub => exact zSh_pI _ (fun y r => zSh_pI _ (fun z r => zSh_k _ _ _ _))
  case imul => exact zSh_pI _ (fun y r => zSh_pI _ (fun z r => zSh_k _ _ _ _))
  case iand => exact zSh_pI _ (fun y r => zSh_pI _ (fun z r => zSh_k _ _ _ _))
  case ior => exact zSh_pI _ (fun y r => zSh_pI _ (fun z r => zSh_k _ _ _ _))
  case ixor => exact zSh_pI _ (fun y r => zSh_pI _ (fun z r => zSh_k _ _ _ _))
  case ishl => exact zSh_pI _ (fun y r => zSh_pI _ (fun z r => zSh_k _ _ _ _))
  case ishr => exact zSh_pI _ (fun y r => zSh_pI _ (fun z r => zSh_k _ _ _ _))
  case iushr => exact zSh_pI _ (fun y r => zSh_pI _ (fun z r => zSh_k _ _ _ _))
  case ineg => exact zSh_pI _ (fun y r => zSh_k _ _ _ _)
  case ladd => exact zSh_pJ _ (fun y r => zSh_pJ _ (fun z r => zSh_k _ _ _ _))
  case lsub => exact zSh_pJ _ (fun y r => zSh_pJ _ (fun z r => zSh_k _ _ _ _))
  case lmul => exact zSh_pJ _ (fun y r => zSh_pJ _ (fun z r => zSh_k _ _ _ _))
  case lcmp => exact zSh_pJ _ (fun y r => zSh_pJ _ (fun z r => zSh_k _ _ _ _))
  case i2l => exact zSh_pI _ (fun y r => zSh_k _ _ _ _)
  case l2i => exact zSh_pJ _ (fun y r => zSh_k _ _ _ _)
  case i2b => exact zSh_pI _ (fun y r => zSh_k _ _ _ _)
  case i2s => exact zSh_pI _ (fun y r => zSh_k _ _ _ _)
  all_goals first | exact zSh_k _ _ _ _ | exact zSh_c _
theorem zSh_one (X : Nat → Nat → Int32) (C : Nat → List zV → zS → Option zR) (ret : Option FieldType) (cd : zC) (pc : Nat) (ls : zL) (st : List zV) (σ : zS) : zSh (fun k => zone X C ret cd k pc ls st σ) := by
  unfold zone
  rcases zat cd pc with _ | q
  · exact zSh_c none
  · exact zSh_ins _ _ _ _ _ _ _ _ _ _ _ _
section ZGO
variable (X : Nat → Nat → Int32) (C : Nat → List zV → zS → Option zR) (ret : Option FieldType) (cd : zC)
theorem zden_mono : ∀ (n : Nat) (pc : Nat) (ls : zL) (st : List zV) (σ : zS) (r : zR), zden X C ret cd n pc ls st σ = some r → zden X C ret cd (n + 1) pc ls st σ = some r
  | 0, pc, ls, st, σ, r, h => by cases h
  | n + 1, pc, ls, st, σ, r, h => by
    have h0 : zone X C ret cd (zden X C ret cd n) pc ls st σ = some r := h
    show zone X C ret cd (zden X C ret cd (n + 1)) pc ls st σ = some r
    rcases zSh_one X C ret cd pc ls st σ with ⟨o, ho⟩ | ⟨pc', ls', st', σ', ho⟩
    · have e1 := ho (zden X C ret cd n)
      have e2 := ho (zden X C ret cd (n + 1))
      dsimp only at e1 e2
      rw [e2, ← e1]; exact h0
    · have e1 := ho (zden X C ret cd n)
      have e2 := ho (zden X C ret cd (n + 1))
      dsimp only at e1 e2
      rw [e1] at h0
      rw [e2]
      exact zden_mono n pc' ls' st' σ' r h0
theorem zden_le {n m : Nat} (h : n ≤ m) {pc : Nat} {ls : zL} {st : List zV} {σ : zS} {r : zR} (e : zden X C ret cd n pc ls st σ = some r) : zden X C ret cd m pc ls st σ = some r := by
  obtain ⟨d, rfl⟩ := Nat.exists_eq_add_of_le h
  clear h
  induction d with
  | zero => exact e
  | succ d ih => exact zden_mono X C ret cd _ _ _ _ _ _ ih
theorem zden_fun {n m : Nat} {pc : Nat} {ls : zL} {st : List zV} {σ : zS} {r r' : zR} (e : zden X C ret cd n pc ls st σ = some r) (e' : zden X C ret cd m pc ls st σ = some r') : r = r' := by
  have h1 := zden_le X C ret cd (Nat.le_max_left n m) e
  have h2 := zden_le X C ret cd (Nat.le_max_right n m) e'
  exact Option.some.inj (h1.symm.trans h2)
noncomputable def zgo (pc : Nat) (ls : zL) (st : List zV) (σ : zS) : Option zR := @dite _ (∃ q : Nat × zR, zden X C ret cd q.1 pc ls st σ = some q.2) (Classical.propDecidable _) (fun h => some h.choose.2) (fun _ => none)
theorem zgo_of {n : Nat} {pc : Nat} {ls : zL} {st : List zV} {σ : zS} {r : zR} (e : zden X C ret cd n pc ls st σ = some r) : zgo X C ret cd pc ls st σ = some r := by
  have h : ∃ q : Nat × zR, zden X C ret cd q.1 pc ls st σ = some q.2 := ⟨(n, r), e⟩
  unfold zgo
  rw [dif_pos h]
  exact congrArg some (zden_fun X C ret cd h.choose_spec e)
theorem zgo_to {pc : Nat} {ls : zL} {st : List zV} {σ : zS} {r : zR} (e : zgo X C ret cd pc ls st σ = some r) : ∃ n, zden X C ret cd n pc ls st σ = some r := by
  unfold zgo at e
  by_cases h : ∃ q : Nat × zR, zden X C ret cd q.1 pc ls st σ = some q.2
  · rw [dif_pos h] at e
    refine ⟨h.choose.1, ?_⟩
    rw [h.choose_spec]
    exact e
  · rw [dif_neg h] at e
    cases e
theorem zgo_eq (pc : Nat) (ls : zL) (st : List zV) (σ : zS) : zgo X C ret cd pc ls st σ = zone X C ret cd (zgo X C ret cd) pc ls st σ := by
  rcases zSh_one X C ret cd pc ls st σ with ⟨o, ho⟩ | ⟨pc', ls', st', σ', ho⟩
  · have e1 := ho (zgo X C ret cd)
    dsimp only at e1
    rw [e1]
    cases o with
    | some r => exact zgo_of X C ret cd (n := 1) (show zone X C ret cd (zden X C ret cd 0) pc ls st σ = some r from ho _)
    | none =>
      cases h : zgo X C ret cd pc ls st σ with
      | none => rfl
      | some r =>
        obtain ⟨n, hn⟩ := zgo_to X C ret cd h
        cases n with
        | zero => cases hn
        | succ n =>
          have h2 : zone X C ret cd (zden X C ret cd n) pc ls st σ = some r := hn
          have e2 := ho (zden X C ret cd n)
          dsimp only at e2
          rw [e2] at h2
          cases h2
  · have e1 := ho (zgo X C ret cd)
    dsimp only at e1
    rw [e1]
    cases h : zgo X C ret cd pc' ls' st' σ' with
    | some r =>
      obtain ⟨n, hn⟩ := zgo_to X C ret cd h
      refine zgo_of X C ret cd (n := n + 1) ?_
      show zone X C ret cd (zden X C ret cd n) pc ls st σ = some r
      have e2 := ho (zden X C ret cd n)
      dsimp only at e2
      rw [e2]
      exact hn
    | none =>
      cases h3 : zgo X C ret cd pc ls st σ with
      | none => rfl
      | some r =>
        obtain ⟨n, hn⟩ := zgo_to X C ret cd h3
        cases n with
        | zero => cases hn
        | succ n =>
          have h2 : zone X C ret cd (zden X C ret cd n) pc ls st σ = some r := hn
          have e2 := ho (zden X C ret cd n)
          dsimp only at e2
          rw [e2] at h2
          rw [zgo_of X C ret cd h2] at h
          cases h
/-- many steps at once, up to the places of a list -/
noncomputable def zrun (stop : List Nat) : Nat → Nat → zL → List zV → zS → Option zR
  | 0 => zgo X C ret cd
  | n + 1 => fun pc ls st σ => match stop.elem pc with
    | true => zgo X C ret cd pc ls st σ
    | false => zone X C ret cd (zrun stop n) pc ls st σ
theorem zrun_go (stop : List Nat) : ∀ n : Nat, zrun X C ret cd stop n = zgo X C ret cd
  | 0 => rfl
  | n + 1 => by
    funext pc ls st σ
    show (match stop.elem pc with | true => zgo X C ret cd pc ls st σ | false => zone X C ret cd (zrun X C ret cd stop n) pc ls st σ) = _
    rw [zrun_go stop n]
    cases stop.elem pc
    · exact (zgo_eq X C ret cd pc ls st σ).symm
    · rfl
theorem zgo_run (stop : List Nat) (n : Nat) (pc : Nat) (ls : zL) (st : List zV) (σ : zS) : zgo X C ret cd pc ls st σ = zone X C ret cd (zrun X C ret cd stop n) pc ls st σ := by
  rw [zrun_go]
  exact zgo_eq X C ret cd pc ls st σ
end ZGO
end
