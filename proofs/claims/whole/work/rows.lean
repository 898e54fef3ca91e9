section
-- ===== PART A: goes FIRST, ahead of the names: the tables' words, and 'selects' of the private methods out of them =====
/-- a private method of a class that the tables say can be made, by its rows of tables_1 -/
def lw_okq (q : MethodName × Nat) : Prop := (q.1.cls ≠ "java/lang/invoke/MethodHandle" ∧ q.1.cls ≠ "java/lang/invoke/VarHandle") ∧ Cond.instantiable q.1.cls q.2 ∈ tables_1 ∧ Cond.privateMethod q.1 ∈ tables_1 ∧ Cond.instanceMethod q.1 ∈ tables_1
theorem lw_p0 : lw_okq (⟨"FaultGraph$SetUpText", "parseClause", "()Z"⟩, 7) := ⟨⟨by decide +kernel, by decide +kernel⟩, List.mem_of_getElem? (i := 185) (by decide +kernel), List.mem_of_getElem? (i := 384) (by decide +kernel), List.mem_of_getElem? (i := 385) (by decide +kernel)⟩
theorem lw_p1 : lw_okq (⟨"FaultGraph$SetUpText", "passes", "(I)Z"⟩, 7) := ⟨⟨by decide +kernel, by decide +kernel⟩, List.mem_of_getElem? (i := 185) (by decide +kernel), List.mem_of_getElem? (i := 388) (by decide +kernel), List.mem_of_getElem? (i := 389) (by decide +kernel)⟩
theorem lw_p2 : lw_okq (⟨"FaultGraph$SetUpText", "digits", "(I)I"⟩, 7) := ⟨⟨by decide +kernel, by decide +kernel⟩, List.mem_of_getElem? (i := 185) (by decide +kernel), List.mem_of_getElem? (i := 392) (by decide +kernel), List.mem_of_getElem? (i := 393) (by decide +kernel)⟩
theorem lw_p3 : lw_okq (⟨"FaultGraph$SetUpText", "keep", "(III)Z"⟩, 7) := ⟨⟨by decide +kernel, by decide +kernel⟩, List.mem_of_getElem? (i := 185) (by decide +kernel), List.mem_of_getElem? (i := 400) (by decide +kernel), List.mem_of_getElem? (i := 401) (by decide +kernel)⟩
theorem lw_p4 : lw_okq (⟨"FaultGraph$SetUpText", "parseInput", "()Z"⟩, 7) := ⟨⟨by decide +kernel, by decide +kernel⟩, List.mem_of_getElem? (i := 185) (by decide +kernel), List.mem_of_getElem? (i := 404) (by decide +kernel), List.mem_of_getElem? (i := 405) (by decide +kernel)⟩
theorem lw_p5 : lw_okq (⟨"FaultGraph$SetUpText", "parseCause", "()Z"⟩, 7) := ⟨⟨by decide +kernel, by decide +kernel⟩, List.mem_of_getElem? (i := 185) (by decide +kernel), List.mem_of_getElem? (i := 408) (by decide +kernel), List.mem_of_getElem? (i := 409) (by decide +kernel)⟩
theorem lw_p6 : lw_okq (⟨"FaultGraph", "obey", "(I)I"⟩, 9) := ⟨⟨by decide +kernel, by decide +kernel⟩, List.mem_of_getElem? (i := 15) (by decide +kernel), List.mem_of_getElem? (i := 412) (by decide +kernel), List.mem_of_getElem? (i := 413) (by decide +kernel)⟩
theorem lw_p7 : lw_okq (⟨"FaultGraph$Plant", "gateTable", "(I)J"⟩, 14) := ⟨⟨by decide +kernel, by decide +kernel⟩, List.mem_of_getElem? (i := 29) (by decide +kernel), List.mem_of_getElem? (i := 428) (by decide +kernel), List.mem_of_getElem? (i := 429) (by decide +kernel)⟩
theorem lw_p8 : lw_okq (⟨"FaultGraph$Plant", "countInputs", "(II)V"⟩, 14) := ⟨⟨by decide +kernel, by decide +kernel⟩, List.mem_of_getElem? (i := 29) (by decide +kernel), List.mem_of_getElem? (i := 432) (by decide +kernel), List.mem_of_getElem? (i := 433) (by decide +kernel)⟩
theorem lw_p9 : lw_okq (⟨"FaultGraph$Plant", "inputTable", "(I)J"⟩, 14) := ⟨⟨by decide +kernel, by decide +kernel⟩, List.mem_of_getElem? (i := 29) (by decide +kernel), List.mem_of_getElem? (i := 437) (by decide +kernel), List.mem_of_getElem? (i := 438) (by decide +kernel)⟩
theorem lw_p10 : lw_okq (⟨"FaultGraph", "sifted", "(I)I"⟩, 9) := ⟨⟨by decide +kernel, by decide +kernel⟩, List.mem_of_getElem? (i := 15) (by decide +kernel), List.mem_of_getElem? (i := 462) (by decide +kernel), List.mem_of_getElem? (i := 463) (by decide +kernel)⟩
theorem lw_p11 : lw_okq (⟨"FaultGraph$Graph", "meet", "(LFaultGraph$Plant;JI)I"⟩, 5) := ⟨⟨by decide +kernel, by decide +kernel⟩, List.mem_of_getElem? (i := 138) (by decide +kernel), List.mem_of_getElem? (i := 483) (by decide +kernel), List.mem_of_getElem? (i := 484) (by decide +kernel)⟩
theorem lw_p12 : lw_okq (⟨"FaultGraph$Graph", "met", "(J)I"⟩, 5) := ⟨⟨by decide +kernel, by decide +kernel⟩, List.mem_of_getElem? (i := 138) (by decide +kernel), List.mem_of_getElem? (i := 488) (by decide +kernel), List.mem_of_getElem? (i := 489) (by decide +kernel)⟩
theorem lw_p13 : lw_okq (⟨"FaultGraph", "toldOfTop", "(I)I"⟩, 9) := ⟨⟨by decide +kernel, by decide +kernel⟩, List.mem_of_getElem? (i := 15) (by decide +kernel), List.mem_of_getElem? (i := 517) (by decide +kernel), List.mem_of_getElem? (i := 518) (by decide +kernel)⟩
theorem lw_p14 : lw_okq (⟨"FaultGraph$LeastSets", "list", "(JI)I"⟩, 2) := ⟨⟨by decide +kernel, by decide +kernel⟩, List.mem_of_getElem? (i := 160) (by decide +kernel), List.mem_of_getElem? (i := 525) (by decide +kernel), List.mem_of_getElem? (i := 526) (by decide +kernel)⟩
theorem lw_p15 : lw_okq (⟨"FaultGraph$LeastSets", "keep", "(I)V"⟩, 2) := ⟨⟨by decide +kernel, by decide +kernel⟩, List.mem_of_getElem? (i := 160) (by decide +kernel), List.mem_of_getElem? (i := 539) (by decide +kernel), List.mem_of_getElem? (i := 540) (by decide +kernel)⟩
def lw_privs_1 : List (MethodName × Nat) := [(⟨"FaultGraph$SetUpText", "parseClause", "()Z"⟩, 7), (⟨"FaultGraph$SetUpText", "passes", "(I)Z"⟩, 7), (⟨"FaultGraph$SetUpText", "digits", "(I)I"⟩, 7), (⟨"FaultGraph$SetUpText", "keep", "(III)Z"⟩, 7), (⟨"FaultGraph$SetUpText", "parseInput", "()Z"⟩, 7), (⟨"FaultGraph$SetUpText", "parseCause", "()Z"⟩, 7), (⟨"FaultGraph", "obey", "(I)I"⟩, 9), (⟨"FaultGraph$Plant", "gateTable", "(I)J"⟩, 14), (⟨"FaultGraph$Plant", "countInputs", "(II)V"⟩, 14), (⟨"FaultGraph$Plant", "inputTable", "(I)J"⟩, 14), (⟨"FaultGraph", "sifted", "(I)I"⟩, 9), (⟨"FaultGraph$Graph", "meet", "(LFaultGraph$Plant;JI)I"⟩, 5), (⟨"FaultGraph$Graph", "met", "(J)I"⟩, 5), (⟨"FaultGraph", "toldOfTop", "(I)I"⟩, 9), (⟨"FaultGraph$LeastSets", "list", "(JI)I"⟩, 2), (⟨"FaultGraph$LeastSets", "keep", "(I)V"⟩, 2)]
theorem lw_r1 : ∀ q ∈ lw_privs_1, lw_okq q := List.forall_mem_cons.mpr ⟨lw_p0, List.forall_mem_cons.mpr ⟨lw_p1, List.forall_mem_cons.mpr ⟨lw_p2, List.forall_mem_cons.mpr ⟨lw_p3, List.forall_mem_cons.mpr ⟨lw_p4, List.forall_mem_cons.mpr ⟨lw_p5, List.forall_mem_cons.mpr ⟨lw_p6, List.forall_mem_cons.mpr ⟨lw_p7, List.forall_mem_cons.mpr ⟨lw_p8, List.forall_mem_cons.mpr ⟨lw_p9, List.forall_mem_cons.mpr ⟨lw_p10, List.forall_mem_cons.mpr ⟨lw_p11, List.forall_mem_cons.mpr ⟨lw_p12, List.forall_mem_cons.mpr ⟨lw_p13, List.forall_mem_cons.mpr ⟨lw_p14, List.forall_mem_cons.mpr ⟨lw_p15, fun _ h => absurd h List.not_mem_nil⟩⟩⟩⟩⟩⟩⟩⟩⟩⟩⟩⟩⟩⟩⟩⟩
theorem lw_p16 : lw_okq (⟨"FaultGraph$Chances", "spread", "(III)V"⟩, 1) := ⟨⟨by decide +kernel, by decide +kernel⟩, List.mem_of_getElem? (i := 175) (by decide +kernel), List.mem_of_getElem? (i := 563) (by decide +kernel), List.mem_of_getElem? (i := 564) (by decide +kernel)⟩
theorem lw_p17 : lw_okq (⟨"FaultGraph$Chances", "sumOver", "(JI)J"⟩, 1) := ⟨⟨by decide +kernel, by decide +kernel⟩, List.mem_of_getElem? (i := 175) (by decide +kernel), List.mem_of_getElem? (i := 568) (by decide +kernel), List.mem_of_getElem? (i := 569) (by decide +kernel)⟩
theorem lw_p18 : lw_okq (⟨"FaultGraph", "listCutsNow", "()I"⟩, 9) := ⟨⟨by decide +kernel, by decide +kernel⟩, List.mem_of_getElem? (i := 15) (by decide +kernel), List.mem_of_getElem? (i := 581) (by decide +kernel), List.mem_of_getElem? (i := 582) (by decide +kernel)⟩
theorem lw_p19 : lw_okq (⟨"FaultGraph", "isAsSeen", "(J)Z"⟩, 9) := ⟨⟨by decide +kernel, by decide +kernel⟩, List.mem_of_getElem? (i := 15) (by decide +kernel), List.mem_of_getElem? (i := 637) (by decide +kernel), List.mem_of_getElem? (i := 638) (by decide +kernel)⟩
theorem lw_p20 : lw_okq (⟨"FaultGraph", "tapeOf", "(I)LFaultGraph$Tape;"⟩, 9) := ⟨⟨by decide +kernel, by decide +kernel⟩, List.mem_of_getElem? (i := 15) (by decide +kernel), List.mem_of_getElem? (i := 677) (by decide +kernel), List.mem_of_getElem? (i := 678) (by decide +kernel)⟩
theorem lw_p21 : lw_okq (⟨"FaultGraphModel", "isGate", "(I)Z"⟩, 35) := ⟨⟨by decide +kernel, by decide +kernel⟩, List.mem_of_getElem? (i := 739) (by decide +kernel), List.mem_of_getElem? (i := 873) (by decide +kernel), List.mem_of_getElem? (i := 874) (by decide +kernel)⟩
theorem lw_p22 : lw_okq (⟨"FaultGraphModel", "isPart", "(I)Z"⟩, 35) := ⟨⟨by decide +kernel, by decide +kernel⟩, List.mem_of_getElem? (i := 739) (by decide +kernel), List.mem_of_getElem? (i := 881) (by decide +kernel), List.mem_of_getElem? (i := 882) (by decide +kernel)⟩
theorem lw_p23 : lw_okq (⟨"FaultGraphModel", "topmost", "()I"⟩, 35) := ⟨⟨by decide +kernel, by decide +kernel⟩, List.mem_of_getElem? (i := 739) (by decide +kernel), List.mem_of_getElem? (i := 893) (by decide +kernel), List.mem_of_getElem? (i := 894) (by decide +kernel)⟩
theorem lw_p24 : lw_okq (⟨"FaultGraphModel", "isSet", "(I)Z"⟩, 35) := ⟨⟨by decide +kernel, by decide +kernel⟩, List.mem_of_getElem? (i := 739) (by decide +kernel), List.mem_of_getElem? (i := 901) (by decide +kernel), List.mem_of_getElem? (i := 902) (by decide +kernel)⟩
theorem lw_p25 : lw_okq (⟨"FaultGraphModel", "placeOf", "(I)I"⟩, 35) := ⟨⟨by decide +kernel, by decide +kernel⟩, List.mem_of_getElem? (i := 739) (by decide +kernel), List.mem_of_getElem? (i := 913) (by decide +kernel), List.mem_of_getElem? (i := 914) (by decide +kernel)⟩
theorem lw_p26 : lw_okq (⟨"FaultGraphModel", "ofGate", "(II)I"⟩, 35) := ⟨⟨by decide +kernel, by decide +kernel⟩, List.mem_of_getElem? (i := 739) (by decide +kernel), List.mem_of_getElem? (i := 917) (by decide +kernel), List.mem_of_getElem? (i := 918) (by decide +kernel)⟩
theorem lw_p27 : lw_okq (⟨"FaultGraphModel", "fault", "()I"⟩, 35) := ⟨⟨by decide +kernel, by decide +kernel⟩, List.mem_of_getElem? (i := 739) (by decide +kernel), List.mem_of_getElem? (i := 929) (by decide +kernel), List.mem_of_getElem? (i := 930) (by decide +kernel)⟩
theorem lw_p28 : lw_okq (⟨"FaultGraphModel", "behind", "(I)I"⟩, 35) := ⟨⟨by decide +kernel, by decide +kernel⟩, List.mem_of_getElem? (i := 739) (by decide +kernel), List.mem_of_getElem? (i := 933) (by decide +kernel), List.mem_of_getElem? (i := 934) (by decide +kernel)⟩
theorem lw_p29 : lw_okq (⟨"FaultGraphModel", "behindOdds", "(I)I"⟩, 35) := ⟨⟨by decide +kernel, by decide +kernel⟩, List.mem_of_getElem? (i := 739) (by decide +kernel), List.mem_of_getElem? (i := 937) (by decide +kernel), List.mem_of_getElem? (i := 938) (by decide +kernel)⟩
theorem lw_p30 : lw_okq (⟨"FaultGraphModel", "isDigit", "(I)Z"⟩, 35) := ⟨⟨by decide +kernel, by decide +kernel⟩, List.mem_of_getElem? (i := 739) (by decide +kernel), List.mem_of_getElem? (i := 941) (by decide +kernel), List.mem_of_getElem? (i := 942) (by decide +kernel)⟩
theorem lw_p31 : lw_okq (⟨"FaultGraphModel", "signAt", "(I)I"⟩, 35) := ⟨⟨by decide +kernel, by decide +kernel⟩, List.mem_of_getElem? (i := 739) (by decide +kernel), List.mem_of_getElem? (i := 945) (by decide +kernel), List.mem_of_getElem? (i := 946) (by decide +kernel)⟩
def lw_privs_2 : List (MethodName × Nat) := [(⟨"FaultGraph$Chances", "spread", "(III)V"⟩, 1), (⟨"FaultGraph$Chances", "sumOver", "(JI)J"⟩, 1), (⟨"FaultGraph", "listCutsNow", "()I"⟩, 9), (⟨"FaultGraph", "isAsSeen", "(J)Z"⟩, 9), (⟨"FaultGraph", "tapeOf", "(I)LFaultGraph$Tape;"⟩, 9), (⟨"FaultGraphModel", "isGate", "(I)Z"⟩, 35), (⟨"FaultGraphModel", "isPart", "(I)Z"⟩, 35), (⟨"FaultGraphModel", "topmost", "()I"⟩, 35), (⟨"FaultGraphModel", "isSet", "(I)Z"⟩, 35), (⟨"FaultGraphModel", "placeOf", "(I)I"⟩, 35), (⟨"FaultGraphModel", "ofGate", "(II)I"⟩, 35), (⟨"FaultGraphModel", "fault", "()I"⟩, 35), (⟨"FaultGraphModel", "behind", "(I)I"⟩, 35), (⟨"FaultGraphModel", "behindOdds", "(I)I"⟩, 35), (⟨"FaultGraphModel", "isDigit", "(I)Z"⟩, 35), (⟨"FaultGraphModel", "signAt", "(I)I"⟩, 35)]
theorem lw_r2 : ∀ q ∈ lw_privs_2, lw_okq q := List.forall_mem_cons.mpr ⟨lw_p16, List.forall_mem_cons.mpr ⟨lw_p17, List.forall_mem_cons.mpr ⟨lw_p18, List.forall_mem_cons.mpr ⟨lw_p19, List.forall_mem_cons.mpr ⟨lw_p20, List.forall_mem_cons.mpr ⟨lw_p21, List.forall_mem_cons.mpr ⟨lw_p22, List.forall_mem_cons.mpr ⟨lw_p23, List.forall_mem_cons.mpr ⟨lw_p24, List.forall_mem_cons.mpr ⟨lw_p25, List.forall_mem_cons.mpr ⟨lw_p26, List.forall_mem_cons.mpr ⟨lw_p27, List.forall_mem_cons.mpr ⟨lw_p28, List.forall_mem_cons.mpr ⟨lw_p29, List.forall_mem_cons.mpr ⟨lw_p30, List.forall_mem_cons.mpr ⟨lw_p31, fun _ h => absurd h List.not_mem_nil⟩⟩⟩⟩⟩⟩⟩⟩⟩⟩⟩⟩⟩⟩⟩⟩
theorem lw_p32 : lw_okq (⟨"FaultGraphModel", "behindParts", "(I)I"⟩, 35) := ⟨⟨by decide +kernel, by decide +kernel⟩, List.mem_of_getElem? (i := 739) (by decide +kernel), List.mem_of_getElem? (i := 949) (by decide +kernel), List.mem_of_getElem? (i := 950) (by decide +kernel)⟩
theorem lw_p33 : lw_okq (⟨"FaultGraphModel", "does", "(II)Z"⟩, 35) := ⟨⟨by decide +kernel, by decide +kernel⟩, List.mem_of_getElem? (i := 739) (by decide +kernel), List.mem_of_getElem? (i := 953) (by decide +kernel), List.mem_of_getElem? (i := 954) (by decide +kernel)⟩
theorem lw_p34 : lw_okq (⟨"FaultGraphModel", "number", "(II)I"⟩, 35) := ⟨⟨by decide +kernel, by decide +kernel⟩, List.mem_of_getElem? (i := 739) (by decide +kernel), List.mem_of_getElem? (i := 957) (by decide +kernel), List.mem_of_getElem? (i := 958) (by decide +kernel)⟩
theorem lw_p35 : lw_okq (⟨"FaultGraphModel", "fallsAt", "(II)Z"⟩, 35) := ⟨⟨by decide +kernel, by decide +kernel⟩, List.mem_of_getElem? (i := 739) (by decide +kernel), List.mem_of_getElem? (i := 969) (by decide +kernel), List.mem_of_getElem? (i := 970) (by decide +kernel)⟩
theorem lw_p36 : lw_okq (⟨"FaultGraphModel", "fallsBy", "(II)Z"⟩, 35) := ⟨⟨by decide +kernel, by decide +kernel⟩, List.mem_of_getElem? (i := 739) (by decide +kernel), List.mem_of_getElem? (i := 973) (by decide +kernel), List.mem_of_getElem? (i := 974) (by decide +kernel)⟩
theorem lw_p37 : lw_okq (⟨"FaultGraphModel", "goes", "(II)V"⟩, 35) := ⟨⟨by decide +kernel, by decide +kernel⟩, List.mem_of_getElem? (i := 739) (by decide +kernel), List.mem_of_getElem? (i := 981) (by decide +kernel), List.mem_of_getElem? (i := 982) (by decide +kernel)⟩
theorem lw_p38 : lw_okq (⟨"FaultGraphModel", "draws", "()I"⟩, 35) := ⟨⟨by decide +kernel, by decide +kernel⟩, List.mem_of_getElem? (i := 739) (by decide +kernel), List.mem_of_getElem? (i := 993) (by decide +kernel), List.mem_of_getElem? (i := 994) (by decide +kernel)⟩
theorem lw_p39 : lw_okq (⟨"FaultGraphModel", "isDown", "(I)Z"⟩, 35) := ⟨⟨by decide +kernel, by decide +kernel⟩, List.mem_of_getElem? (i := 739) (by decide +kernel), List.mem_of_getElem? (i := 997) (by decide +kernel), List.mem_of_getElem? (i := 998) (by decide +kernel)⟩
theorem lw_p40 : lw_okq (⟨"FaultGraphModel", "nodeFor", "(J)I"⟩, 35) := ⟨⟨by decide +kernel, by decide +kernel⟩, List.mem_of_getElem? (i := 739) (by decide +kernel), List.mem_of_getElem? (i := 1001) (by decide +kernel), List.mem_of_getElem? (i := 1002) (by decide +kernel)⟩
theorem lw_p41 : lw_okq (⟨"FaultGraphModel", "all", "()J"⟩, 35) := ⟨⟨by decide +kernel, by decide +kernel⟩, List.mem_of_getElem? (i := 739) (by decide +kernel), List.mem_of_getElem? (i := 1005) (by decide +kernel), List.mem_of_getElem? (i := 1006) (by decide +kernel)⟩
theorem lw_p42 : lw_okq (⟨"FaultGraphModel", "were", "(JIZ)J"⟩, 35) := ⟨⟨by decide +kernel, by decide +kernel⟩, List.mem_of_getElem? (i := 739) (by decide +kernel), List.mem_of_getElem? (i := 1010) (by decide +kernel), List.mem_of_getElem? (i := 1011) (by decide +kernel)⟩
theorem lw_p43 : lw_okq (⟨"FaultGraphModel", "setAt", "(IZ)I"⟩, 35) := ⟨⟨by decide +kernel, by decide +kernel⟩, List.mem_of_getElem? (i := 739) (by decide +kernel), List.mem_of_getElem? (i := 1022) (by decide +kernel), List.mem_of_getElem? (i := 1023) (by decide +kernel)⟩
theorem lw_p44 : lw_okq (⟨"FaultGraphModel", "sets", "(Z)V"⟩, 35) := ⟨⟨by decide +kernel, by decide +kernel⟩, List.mem_of_getElem? (i := 739) (by decide +kernel), List.mem_of_getElem? (i := 1026) (by decide +kernel), List.mem_of_getElem? (i := 1027) (by decide +kernel)⟩
theorem lw_p45 : lw_okq (⟨"FaultGraphModel", "isLeast", "(IZ)Z"⟩, 35) := ⟨⟨by decide +kernel, by decide +kernel⟩, List.mem_of_getElem? (i := 739) (by decide +kernel), List.mem_of_getElem? (i := 1033) (by decide +kernel), List.mem_of_getElem? (i := 1034) (by decide +kernel)⟩
theorem lw_p46 : lw_okq (⟨"FaultGraphModel", "isOne", "(IZ)Z"⟩, 35) := ⟨⟨by decide +kernel, by decide +kernel⟩, List.mem_of_getElem? (i := 739) (by decide +kernel), List.mem_of_getElem? (i := 1037) (by decide +kernel), List.mem_of_getElem? (i := 1038) (by decide +kernel)⟩
theorem lw_p47 : lw_okq (⟨"FaultGraphModel", "chance", "()J"⟩, 35) := ⟨⟨by decide +kernel, by decide +kernel⟩, List.mem_of_getElem? (i := 739) (by decide +kernel), List.mem_of_getElem? (i := 1050) (by decide +kernel), List.mem_of_getElem? (i := 1051) (by decide +kernel)⟩
def lw_privs_3 : List (MethodName × Nat) := [(⟨"FaultGraphModel", "behindParts", "(I)I"⟩, 35), (⟨"FaultGraphModel", "does", "(II)Z"⟩, 35), (⟨"FaultGraphModel", "number", "(II)I"⟩, 35), (⟨"FaultGraphModel", "fallsAt", "(II)Z"⟩, 35), (⟨"FaultGraphModel", "fallsBy", "(II)Z"⟩, 35), (⟨"FaultGraphModel", "goes", "(II)V"⟩, 35), (⟨"FaultGraphModel", "draws", "()I"⟩, 35), (⟨"FaultGraphModel", "isDown", "(I)Z"⟩, 35), (⟨"FaultGraphModel", "nodeFor", "(J)I"⟩, 35), (⟨"FaultGraphModel", "all", "()J"⟩, 35), (⟨"FaultGraphModel", "were", "(JIZ)J"⟩, 35), (⟨"FaultGraphModel", "setAt", "(IZ)I"⟩, 35), (⟨"FaultGraphModel", "sets", "(Z)V"⟩, 35), (⟨"FaultGraphModel", "isLeast", "(IZ)Z"⟩, 35), (⟨"FaultGraphModel", "isOne", "(IZ)Z"⟩, 35), (⟨"FaultGraphModel", "chance", "()J"⟩, 35)]
theorem lw_r3 : ∀ q ∈ lw_privs_3, lw_okq q := List.forall_mem_cons.mpr ⟨lw_p32, List.forall_mem_cons.mpr ⟨lw_p33, List.forall_mem_cons.mpr ⟨lw_p34, List.forall_mem_cons.mpr ⟨lw_p35, List.forall_mem_cons.mpr ⟨lw_p36, List.forall_mem_cons.mpr ⟨lw_p37, List.forall_mem_cons.mpr ⟨lw_p38, List.forall_mem_cons.mpr ⟨lw_p39, List.forall_mem_cons.mpr ⟨lw_p40, List.forall_mem_cons.mpr ⟨lw_p41, List.forall_mem_cons.mpr ⟨lw_p42, List.forall_mem_cons.mpr ⟨lw_p43, List.forall_mem_cons.mpr ⟨lw_p44, List.forall_mem_cons.mpr ⟨lw_p45, List.forall_mem_cons.mpr ⟨lw_p46, List.forall_mem_cons.mpr ⟨lw_p47, fun _ h => absurd h List.not_mem_nil⟩⟩⟩⟩⟩⟩⟩⟩⟩⟩⟩⟩⟩⟩⟩⟩
theorem lw_p48 : lw_okq (⟨"FaultGraphModel", "together", "(I)J"⟩, 35) := ⟨⟨by decide +kernel, by decide +kernel⟩, List.mem_of_getElem? (i := 739) (by decide +kernel), List.mem_of_getElem? (i := 1054) (by decide +kernel), List.mem_of_getElem? (i := 1055) (by decide +kernel)⟩
theorem lw_p49 : lw_okq (⟨"FaultGraphModel", "broken", "(I)I"⟩, 35) := ⟨⟨by decide +kernel, by decide +kernel⟩, List.mem_of_getElem? (i := 739) (by decide +kernel), List.mem_of_getElem? (i := 1058) (by decide +kernel), List.mem_of_getElem? (i := 1059) (by decide +kernel)⟩
theorem lw_p50 : lw_okq (⟨"FaultGraphModel", "alone", "(I)J"⟩, 35) := ⟨⟨by decide +kernel, by decide +kernel⟩, List.mem_of_getElem? (i := 739) (by decide +kernel), List.mem_of_getElem? (i := 1062) (by decide +kernel), List.mem_of_getElem? (i := 1063) (by decide +kernel)⟩
theorem lw_p51 : lw_okq (⟨"FaultGraphModel", "whole", "()J"⟩, 35) := ⟨⟨by decide +kernel, by decide +kernel⟩, List.mem_of_getElem? (i := 739) (by decide +kernel), List.mem_of_getElem? (i := 1066) (by decide +kernel), List.mem_of_getElem? (i := 1067) (by decide +kernel)⟩
theorem lw_p52 : lw_okq (⟨"FaultGraphModel", "weight", "(I)J"⟩, 35) := ⟨⟨by decide +kernel, by decide +kernel⟩, List.mem_of_getElem? (i := 739) (by decide +kernel), List.mem_of_getElem? (i := 1085) (by decide +kernel), List.mem_of_getElem? (i := 1086) (by decide +kernel)⟩
theorem lw_p53 : lw_okq (⟨"FaultGraphModel", "drawn", "()I"⟩, 35) := ⟨⟨by decide +kernel, by decide +kernel⟩, List.mem_of_getElem? (i := 739) (by decide +kernel), List.mem_of_getElem? (i := 1093) (by decide +kernel), List.mem_of_getElem? (i := 1094) (by decide +kernel)⟩
theorem lw_p54 : lw_okq (⟨"FaultGraphModel", "many", "(Z)I"⟩, 35) := ⟨⟨by decide +kernel, by decide +kernel⟩, List.mem_of_getElem? (i := 739) (by decide +kernel), List.mem_of_getElem? (i := 1097) (by decide +kernel), List.mem_of_getElem? (i := 1098) (by decide +kernel)⟩
theorem lw_p55 : lw_okq (⟨"FaultGraphModel", "most", "()I"⟩, 35) := ⟨⟨by decide +kernel, by decide +kernel⟩, List.mem_of_getElem? (i := 739) (by decide +kernel), List.mem_of_getElem? (i := 1101) (by decide +kernel), List.mem_of_getElem? (i := 1102) (by decide +kernel)⟩
theorem lw_p56 : lw_okq (⟨"FaultGraphModel", "ever", "()I"⟩, 35) := ⟨⟨by decide +kernel, by decide +kernel⟩, List.mem_of_getElem? (i := 739) (by decide +kernel), List.mem_of_getElem? (i := 1105) (by decide +kernel), List.mem_of_getElem? (i := 1106) (by decide +kernel)⟩
theorem lw_p57 : lw_okq (⟨"FaultGraphModel", "isAllSo", "()Z"⟩, 35) := ⟨⟨by decide +kernel, by decide +kernel⟩, List.mem_of_getElem? (i := 739) (by decide +kernel), List.mem_of_getElem? (i := 1117) (by decide +kernel), List.mem_of_getElem? (i := 1118) (by decide +kernel)⟩
theorem lw_p58 : lw_okq (⟨"FaultGraphModel", "isTold", "(I)Z"⟩, 35) := ⟨⟨by decide +kernel, by decide +kernel⟩, List.mem_of_getElem? (i := 739) (by decide +kernel), List.mem_of_getElem? (i := 1141) (by decide +kernel), List.mem_of_getElem? (i := 1142) (by decide +kernel)⟩
def lw_privs_4 : List (MethodName × Nat) := [(⟨"FaultGraphModel", "together", "(I)J"⟩, 35), (⟨"FaultGraphModel", "broken", "(I)I"⟩, 35), (⟨"FaultGraphModel", "alone", "(I)J"⟩, 35), (⟨"FaultGraphModel", "whole", "()J"⟩, 35), (⟨"FaultGraphModel", "weight", "(I)J"⟩, 35), (⟨"FaultGraphModel", "drawn", "()I"⟩, 35), (⟨"FaultGraphModel", "many", "(Z)I"⟩, 35), (⟨"FaultGraphModel", "most", "()I"⟩, 35), (⟨"FaultGraphModel", "ever", "()I"⟩, 35), (⟨"FaultGraphModel", "isAllSo", "()Z"⟩, 35), (⟨"FaultGraphModel", "isTold", "(I)Z"⟩, 35)]
theorem lw_r4 : ∀ q ∈ lw_privs_4, lw_okq q := List.forall_mem_cons.mpr ⟨lw_p48, List.forall_mem_cons.mpr ⟨lw_p49, List.forall_mem_cons.mpr ⟨lw_p50, List.forall_mem_cons.mpr ⟨lw_p51, List.forall_mem_cons.mpr ⟨lw_p52, List.forall_mem_cons.mpr ⟨lw_p53, List.forall_mem_cons.mpr ⟨lw_p54, List.forall_mem_cons.mpr ⟨lw_p55, List.forall_mem_cons.mpr ⟨lw_p56, List.forall_mem_cons.mpr ⟨lw_p57, List.forall_mem_cons.mpr ⟨lw_p58, fun _ h => absurd h List.not_mem_nil⟩⟩⟩⟩⟩⟩⟩⟩⟩⟩⟩
def lw_privs : List (MethodName × Nat) := lw_privs_1 ++ (lw_privs_2 ++ (lw_privs_3 ++ (lw_privs_4)))
def lw_tbl : List Cond := k2_sels lw_privs ++ tables_1
theorem lw_privs_ok : ∀ q ∈ lw_privs, lw_okq q := by
  show ∀ q ∈ lw_privs_1 ++ (lw_privs_2 ++ (lw_privs_3 ++ (lw_privs_4))), lw_okq q
  exact List.forall_mem_append.mpr ⟨lw_r1, List.forall_mem_append.mpr ⟨lw_r2, List.forall_mem_append.mpr ⟨lw_r3, lw_r4⟩⟩⟩
end
section
def RX0 : String := "FaultGraph$Chances"
def TX0 : u_T := fun k => match k with
  | _ => ("FaultGraph$Chances", "likely", "[J", true)
def tyX0 : Nat → FieldType := fun k => match k with
  | _ => .array .long
abbrev wsX00 : List Cond := u_ws RX0 TX0 1
theorem nmX0 : ∀ a, a < 1 → ∀ b, b < 1 → a ≠ b → (TX0 a).2.1 ≠ (TX0 b).2.1 := by decide +kernel
theorem tyX0_ok : ∀ k, k < 1 → parseFieldDescriptor (TX0 k).2.2.1 = some (tyX0 k) := by decide +kernel
abbrev cX0_init : ByteArray := prog_2_method_1_code
def yX0_init : MethodName := ⟨RX0, "<init>", "()V"⟩
abbrev cX0_below : ByteArray := prog_2_method_2_code
def yX0_below : MethodName := ⟨RX0, "below", "(LFaultGraph$Plant;)J"⟩
abbrev cX0_above : ByteArray := prog_2_method_3_code
def yX0_above : MethodName := ⟨RX0, "above", "(LFaultGraph$Plant;JII)J"⟩
abbrev cX0_spread : ByteArray := prog_2_method_4_code
def yX0_spread : MethodName := ⟨RX0, "spread", "(III)V"⟩
abbrev cX0_sumOver : ByteArray := prog_2_method_5_code
def yX0_sumOver : MethodName := ⟨RX0, "sumOver", "(JI)J"⟩
abbrev cX0_weightAbove : ByteArray := prog_2_method_6_code
def yX0_weightAbove : MethodName := ⟨RX0, "weightAbove", "(LFaultGraph$Plant;JI)J"⟩
abbrev cX0_mostOf : ByteArray := prog_2_method_7_code
def yX0_mostOf : MethodName := ⟨RX0, "mostOf", "(LFaultGraph$Plant;J)I"⟩
def RX1 : String := "FaultGraph$Graph"
def TX1 : u_T := fun k => match k with
  | 0 => ("FaultGraph$Graph", "size", "I", false)
  | 1 => ("FaultGraph$Graph", "tables", "[J", true)
  | 2 => ("FaultGraph$Graph", "nodeParts", "[I", true)
  | 3 => ("FaultGraph$Graph", "works", "[I", true)
  | _ => ("FaultGraph$Graph", "failing", "[I", true)
def tyX1 : Nat → FieldType := fun k => match k with
  | 0 => .int
  | 1 => .array .long
  | 2 => .array .int
  | 3 => .array .int
  | _ => .array .int
abbrev wsX10 : List Cond := u_ws RX1 TX1 5
theorem nmX1 : ∀ a, a < 5 → ∀ b, b < 5 → a ≠ b → (TX1 a).2.1 ≠ (TX1 b).2.1 := by decide +kernel
theorem tyX1_ok : ∀ k, k < 5 → parseFieldDescriptor (TX1 k).2.2.1 = some (tyX1 k) := by decide +kernel
abbrev cX1_init : ByteArray := prog_3_method_1_code
def yX1_init : MethodName := ⟨RX1, "<init>", "()V"⟩
abbrev cX1_draw : ByteArray := prog_3_method_2_code
def yX1_draw : MethodName := ⟨RX1, "draw", "(LFaultGraph$Plant;J)I"⟩
abbrev cX1_meet : ByteArray := prog_3_method_3_code
def yX1_meet : MethodName := ⟨RX1, "meet", "(LFaultGraph$Plant;JI)I"⟩
abbrev cX1_met : ByteArray := prog_3_method_4_code
def yX1_met : MethodName := ⟨RX1, "met", "(J)I"⟩
abbrev cX1_firstPlace : ByteArray := prog_3_method_5_code
def yX1_firstPlace : MethodName := ⟨RX1, "firstPlace", "(LFaultGraph$Plant;JI)I"⟩
abbrev cX1_ofNode : ByteArray := prog_3_method_6_code
def yX1_ofNode : MethodName := ⟨RX1, "ofNode", "(II)I"⟩
def RX2 : String := "FaultGraph$LeastSets"
def TX2 : u_T := fun k => match k with
  | 0 => ("FaultGraph$LeastSets", "bits", "[I", true)
  | _ => ("FaultGraph$LeastSets", "size", "I", false)
def tyX2 : Nat → FieldType := fun k => match k with
  | 0 => .array .int
  | _ => .int
abbrev wsX20 : List Cond := u_ws RX2 TX2 2
theorem nmX2 : ∀ a, a < 2 → ∀ b, b < 2 → a ≠ b → (TX2 a).2.1 ≠ (TX2 b).2.1 := by decide +kernel
theorem tyX2_ok : ∀ k, k < 2 → parseFieldDescriptor (TX2 k).2.2.1 = some (tyX2 k) := by decide +kernel
abbrev cX2_init : ByteArray := prog_4_method_1_code
def yX2_init : MethodName := ⟨RX2, "<init>", "()V"⟩
abbrev cX2_listCuts : ByteArray := prog_4_method_2_code
def yX2_listCuts : MethodName := ⟨RX2, "listCuts", "(JI)I"⟩
abbrev cX2_listPaths : ByteArray := prog_4_method_3_code
def yX2_listPaths : MethodName := ⟨RX2, "listPaths", "(JI)I"⟩
abbrev cX2_keepsUp : ByteArray := prog_4_method_4_code
def yX2_keepsUp : MethodName := ⟨RX2, "keepsUp", "(J)J"⟩
abbrev cX2_list : ByteArray := prog_4_method_5_code
def yX2_list : MethodName := ⟨RX2, "list", "(JI)I"⟩
abbrev cX2_keep : ByteArray := prog_4_method_6_code
def yX2_keep : MethodName := ⟨RX2, "keep", "(I)V"⟩
abbrev cX2_isLeast : ByteArray := prog_4_method_7_code
def yX2_isLeast : MethodName := ⟨RX2, "isLeast", "(JII)Z"⟩
abbrev cX2_bitsOf : ByteArray := prog_4_method_8_code
def yX2_bitsOf : MethodName := ⟨RX2, "bitsOf", "(I)I"⟩
abbrev cX2_has : ByteArray := prog_4_method_9_code
def yX2_has : MethodName := ⟨RX2, "has", "(I)Z"⟩
abbrev cX2_partsTogether : ByteArray := prog_4_method_10_code
def yX2_partsTogether : MethodName := ⟨RX2, "partsTogether", "()I"⟩
def RX3 : String := "FaultGraph$Plant"
def TX3 : u_T := fun k => match k with
  | 0 => ("FaultGraph$Plant", "partOdds", "[I", true)
  | 1 => ("FaultGraph$Plant", "order", "[I", true)
  | 2 => ("FaultGraph$Plant", "parts", "I", false)
  | 3 => ("FaultGraph$Plant", "kinds", "[I", true)
  | 4 => ("FaultGraph$Plant", "needs", "[I", true)
  | 5 => ("FaultGraph$Plant", "inputs", "[I", true)
  | 6 => ("FaultGraph$Plant", "inputCounts", "[I", true)
  | 7 => ("FaultGraph$Plant", "gates", "I", false)
  | 8 => ("FaultGraph$Plant", "topByHand", "I", false)
  | 9 => ("FaultGraph$Plant", "causeOdds", "[I", true)
  | 10 => ("FaultGraph$Plant", "causeBits", "[I", true)
  | 11 => ("FaultGraph$Plant", "causes", "I", false)
  | 12 => ("FaultGraph$Plant", "gateTables", "[J", true)
  | _ => ("FaultGraph$Plant", "atLeast", "[J", true)
def tyX3 : Nat → FieldType := fun k => match k with
  | 0 => .array .int
  | 1 => .array .int
  | 2 => .int
  | 3 => .array .int
  | 4 => .array .int
  | 5 => .array .int
  | 6 => .array .int
  | 7 => .int
  | 8 => .int
  | 9 => .array .int
  | 10 => .array .int
  | 11 => .int
  | 12 => .array .long
  | _ => .array .long
abbrev wsX30 : List Cond := u_ws RX3 TX3 14
theorem nmX3 : ∀ a, a < 14 → ∀ b, b < 14 → a ≠ b → (TX3 a).2.1 ≠ (TX3 b).2.1 := by decide +kernel
theorem tyX3_ok : ∀ k, k < 14 → parseFieldDescriptor (TX3 k).2.2.1 = some (tyX3 k) := by decide +kernel
abbrev cX3_init : ByteArray := prog_5_method_1_code
def yX3_init : MethodName := ⟨RX3, "<init>", "()V"⟩
abbrev cX3_hasPart : ByteArray := prog_5_method_2_code
def yX3_hasPart : MethodName := ⟨RX3, "hasPart", "(I)Z"⟩
abbrev cX3_hasPlace : ByteArray := prog_5_method_3_code
def yX3_hasPlace : MethodName := ⟨RX3, "hasPlace", "(I)Z"⟩
abbrev cX3_hasGate : ByteArray := prog_5_method_4_code
def yX3_hasGate : MethodName := ⟨RX3, "hasGate", "(I)Z"⟩
abbrev cX3_hasCause : ByteArray := prog_5_method_5_code
def yX3_hasCause : MethodName := ⟨RX3, "hasCause", "(I)Z"⟩
abbrev cX3_hasBits : ByteArray := prog_5_method_6_code
def yX3_hasBits : MethodName := ⟨RX3, "hasBits", "(I)Z"⟩
abbrev cX3_addPart : ByteArray := prog_5_method_7_code
def yX3_addPart : MethodName := ⟨RX3, "addPart", "(I)I"⟩
abbrev cX3_addGate : ByteArray := prog_5_method_8_code
def yX3_addGate : MethodName := ⟨RX3, "addGate", "(II)I"⟩
abbrev cX3_addInput : ByteArray := prog_5_method_9_code
def yX3_addInput : MethodName := ⟨RX3, "addInput", "(II)I"⟩
abbrev cX3_addCause : ByteArray := prog_5_method_10_code
def yX3_addCause : MethodName := ⟨RX3, "addCause", "(II)I"⟩
abbrev cX3_ofPart : ByteArray := prog_5_method_11_code
def yX3_ofPart : MethodName := ⟨RX3, "ofPart", "(II)I"⟩
abbrev cX3_ofGate : ByteArray := prog_5_method_12_code
def yX3_ofGate : MethodName := ⟨RX3, "ofGate", "(II)I"⟩
abbrev cX3_ofCause : ByteArray := prog_5_method_13_code
def yX3_ofCause : MethodName := ⟨RX3, "ofCause", "(II)I"⟩
abbrev cX3_topGate : ByteArray := prog_5_method_14_code
def yX3_topGate : MethodName := ⟨RX3, "topGate", "()I"⟩
abbrev cX3_placeOf : ByteArray := prog_5_method_15_code
def yX3_placeOf : MethodName := ⟨RX3, "placeOf", "(I)I"⟩
abbrev cX3_putAt : ByteArray := prog_5_method_16_code
def yX3_putAt : MethodName := ⟨RX3, "putAt", "(II)I"⟩
abbrev cX3_undergo : ByteArray := prog_5_method_17_code
def yX3_undergo : MethodName := ⟨RX3, "undergo", "(II)V"⟩
abbrev cX3_topTable : ByteArray := prog_5_method_18_code
def yX3_topTable : MethodName := ⟨RX3, "topTable", "()J"⟩
abbrev cX3_tableOf : ByteArray := prog_5_method_19_code
def yX3_tableOf : MethodName := ⟨RX3, "tableOf", "(I)J"⟩
abbrev cX3_gateTable : ByteArray := prog_5_method_20_code
def yX3_gateTable : MethodName := ⟨RX3, "gateTable", "(I)J"⟩
abbrev cX3_countInputs : ByteArray := prog_5_method_21_code
def yX3_countInputs : MethodName := ⟨RX3, "countInputs", "(II)V"⟩
abbrev cX3_inputTable : ByteArray := prog_5_method_22_code
def yX3_inputTable : MethodName := ⟨RX3, "inputTable", "(I)J"⟩
abbrev cX3_ifWorks : ByteArray := prog_5_method_23_code
def yX3_ifWorks : MethodName := ⟨RX3, "ifWorks", "(JI)J"⟩
abbrev cX3_ifFails : ByteArray := prog_5_method_24_code
def yX3_ifFails : MethodName := ⟨RX3, "ifFails", "(JI)J"⟩
abbrev cX3_copyFrom : ByteArray := prog_5_method_25_code
def yX3_copyFrom : MethodName := ⟨RX3, "copyFrom", "(LFaultGraph$Plant;)V"⟩
def RX4 : String := "FaultGraph$Rows"
def TX4 : u_T := fun k => match k with
  | 0 => ("FaultGraph$Rows", "firsts", "[I", true)
  | 1 => ("FaultGraph$Rows", "seconds", "[I", true)
  | _ => ("FaultGraph$Rows", "size", "I", false)
def tyX4 : Nat → FieldType := fun k => match k with
  | 0 => .array .int
  | 1 => .array .int
  | _ => .int
abbrev wsX40 : List Cond := u_ws RX4 TX4 3
theorem nmX4 : ∀ a, a < 3 → ∀ b, b < 3 → a ≠ b → (TX4 a).2.1 ≠ (TX4 b).2.1 := by decide +kernel
theorem tyX4_ok : ∀ k, k < 3 → parseFieldDescriptor (TX4 k).2.2.1 = some (tyX4 k) := by decide +kernel
abbrev cX4_init : ByteArray := prog_6_method_1_code
def yX4_init : MethodName := ⟨RX4, "<init>", "(I)V"⟩
abbrev cX4_add : ByteArray := prog_6_method_2_code
def yX4_add : MethodName := ⟨RX4, "add", "(II)I"⟩
abbrev cX4_empty : ByteArray := prog_6_method_3_code
def yX4_empty : MethodName := ⟨RX4, "empty", "()I"⟩
abbrev cX4_copyFrom : ByteArray := prog_6_method_4_code
def yX4_copyFrom : MethodName := ⟨RX4, "copyFrom", "(LFaultGraph$Rows;)V"⟩
def RX5 : String := "FaultGraph$SetUpText"
def TX5 : u_T := fun k => match k with
  | 0 => ("FaultGraph$SetUpText", "size", "I", false)
  | 1 => ("FaultGraph$SetUpText", "at", "I", false)
  | 2 => ("FaultGraph$SetUpText", "clauses", "I", false)
  | 3 => ("FaultGraph$SetUpText", "sorts", "[I", true)
  | 4 => ("FaultGraph$SetUpText", "firsts", "[I", true)
  | 5 => ("FaultGraph$SetUpText", "seconds", "[I", true)
  | _ => ("FaultGraph$SetUpText", "signs", "[B", true)
def tyX5 : Nat → FieldType := fun k => match k with
  | 0 => .int
  | 1 => .int
  | 2 => .int
  | 3 => .array .int
  | 4 => .array .int
  | 5 => .array .int
  | _ => .array .byte
abbrev wsX50 : List Cond := u_ws RX5 TX5 7
theorem nmX5 : ∀ a, a < 7 → ∀ b, b < 7 → a ≠ b → (TX5 a).2.1 ≠ (TX5 b).2.1 := by decide +kernel
theorem tyX5_ok : ∀ k, k < 7 → parseFieldDescriptor (TX5 k).2.2.1 = some (tyX5 k) := by decide +kernel
abbrev cX5_init : ByteArray := prog_7_method_1_code
def yX5_init : MethodName := ⟨RX5, "<init>", "()V"⟩
abbrev cX5_addSign : ByteArray := prog_7_method_2_code
def yX5_addSign : MethodName := ⟨RX5, "addSign", "(I)I"⟩
abbrev cX5_parse : ByteArray := prog_7_method_3_code
def yX5_parse : MethodName := ⟨RX5, "parse", "()Z"⟩
abbrev cX5_parseClause : ByteArray := prog_7_method_4_code
def yX5_parseClause : MethodName := ⟨RX5, "parseClause", "()Z"⟩
abbrev cX5_parseInput : ByteArray := prog_7_method_5_code
def yX5_parseInput : MethodName := ⟨RX5, "parseInput", "()Z"⟩
abbrev cX5_parseCause : ByteArray := prog_7_method_6_code
def yX5_parseCause : MethodName := ⟨RX5, "parseCause", "()Z"⟩
abbrev cX5_passes : ByteArray := prog_7_method_7_code
def yX5_passes : MethodName := ⟨RX5, "passes", "(I)Z"⟩
abbrev cX5_digits : ByteArray := prog_7_method_8_code
def yX5_digits : MethodName := ⟨RX5, "digits", "(I)I"⟩
abbrev cX5_isDigit : ByteArray := prog_7_method_9_code
def yX5_isDigit : MethodName := ⟨RX5, "isDigit", "(I)Z"⟩
abbrev cX5_keep : ByteArray := prog_7_method_10_code
def yX5_keep : MethodName := ⟨RX5, "keep", "(III)Z"⟩
def RX6 : String := "FaultGraph$State"
def TX6 : u_T := fun k => match k with
  | 0 => ("FaultGraph$State", "plant", "LFaultGraph$Plant;", true)
  | 1 => ("FaultGraph$State", "seen", "LFaultGraph$Rows;", true)
  | 2 => ("FaultGraph$State", "events", "LFaultGraph$Rows;", true)
  | _ => ("FaultGraph$State", "bookRows", "LFaultGraph$Rows;", true)
def tyX6 : Nat → FieldType := fun k => match k with
  | 0 => .object "FaultGraph$Plant"
  | 1 => .object "FaultGraph$Rows"
  | 2 => .object "FaultGraph$Rows"
  | _ => .object "FaultGraph$Rows"
abbrev wsX60 : List Cond := u_ws RX6 TX6 4
theorem nmX6 : ∀ a, a < 4 → ∀ b, b < 4 → a ≠ b → (TX6 a).2.1 ≠ (TX6 b).2.1 := by decide +kernel
theorem tyX6_ok : ∀ k, k < 4 → parseFieldDescriptor (TX6 k).2.2.1 = some (tyX6 k) := by decide +kernel
abbrev cX6_init : ByteArray := prog_8_method_1_code
def yX6_init : MethodName := ⟨RX6, "<init>", "()V"⟩
abbrev cX6_copyFrom : ByteArray := prog_8_method_2_code
def yX6_copyFrom : MethodName := ⟨RX6, "copyFrom", "(LFaultGraph$State;)V"⟩
def RX7 : String := "FaultGraph$Tape"
def TX7 : u_T := fun k => match k with
  | 0 => ("FaultGraph$Tape", "sort", "I", false)
  | 1 => ("FaultGraph$Tape", "length", "I", false)
  | _ => ("FaultGraph$Tape", "items", "[J", true)
def tyX7 : Nat → FieldType := fun k => match k with
  | 0 => .int
  | 1 => .int
  | _ => .array .long
abbrev wsX70 : List Cond := u_ws RX7 TX7 3
theorem nmX7 : ∀ a, a < 3 → ∀ b, b < 3 → a ≠ b → (TX7 a).2.1 ≠ (TX7 b).2.1 := by decide +kernel
theorem tyX7_ok : ∀ k, k < 3 → parseFieldDescriptor (TX7 k).2.2.1 = some (tyX7 k) := by decide +kernel
abbrev cX7_init : ByteArray := prog_9_method_1_code
def yX7_init : MethodName := ⟨RX7, "<init>", "()V"⟩
abbrev cX7_become : ByteArray := prog_9_method_2_code
def yX7_become : MethodName := ⟨RX7, "become", "(II)V"⟩
abbrev cX7_hasPlace : ByteArray := prog_9_method_3_code
def yX7_hasPlace : MethodName := ⟨RX7, "hasPlace", "(I)Z"⟩
abbrev cX7_hasRun : ByteArray := prog_9_method_4_code
def yX7_hasRun : MethodName := ⟨RX7, "hasRun", "(II)Z"⟩
abbrev cX7_asItem : ByteArray := prog_9_method_5_code
def yX7_asItem : MethodName := ⟨RX7, "asItem", "(J)J"⟩
def RX8 : String := "FaultGraph"
def TX8 : u_T := fun k => match k with
  | 0 => ("FaultGraph", "now", "LFaultGraph$State;", true)
  | 1 => ("FaultGraph", "saved", "LFaultGraph$State;", true)
  | 2 => ("FaultGraph", "trial", "LFaultGraph$Plant;", true)
  | 3 => ("FaultGraph", "graph", "LFaultGraph$Graph;", true)
  | 4 => ("FaultGraph", "sets", "LFaultGraph$LeastSets;", true)
  | 5 => ("FaultGraph", "chances", "LFaultGraph$Chances;", true)
  | 6 => ("FaultGraph", "text", "LFaultGraph$SetUpText;", true)
  | 7 => ("FaultGraph", "tapes", "[LFaultGraph$Tape;", true)
  | _ => ("FaultGraph", "hasImage", "Z", false)
def tyX8 : Nat → FieldType := fun k => match k with
  | 0 => .object "FaultGraph$State"
  | 1 => .object "FaultGraph$State"
  | 2 => .object "FaultGraph$Plant"
  | 3 => .object "FaultGraph$Graph"
  | 4 => .object "FaultGraph$LeastSets"
  | 5 => .object "FaultGraph$Chances"
  | 6 => .object "FaultGraph$SetUpText"
  | 7 => .array (.object "FaultGraph$Tape")
  | _ => .boolean
abbrev wsX80 : List Cond := u_ws RX8 TX8 9
theorem nmX8 : ∀ a, a < 9 → ∀ b, b < 9 → a ≠ b → (TX8 a).2.1 ≠ (TX8 b).2.1 := by decide +kernel
theorem tyX8_ok : ∀ k, k < 9 → parseFieldDescriptor (TX8 k).2.2.1 = some (tyX8 k) := by decide +kernel
abbrev cX8_init : ByteArray := prog_1_method_1_code
def yX8_init : MethodName := ⟨RX8, "<init>", "()V"⟩
abbrev cX8_part : ByteArray := prog_1_method_2_code
def yX8_part : MethodName := ⟨RX8, "part", "(I)I"⟩
abbrev cX8_gate : ByteArray := prog_1_method_3_code
def yX8_gate : MethodName := ⟨RX8, "gate", "(II)I"⟩
abbrev cX8_turn : ByteArray := prog_1_method_4_code
def yX8_turn : MethodName := ⟨RX8, "turn", "(III)I"⟩
abbrev cX8_join : ByteArray := prog_1_method_5_code
def yX8_join : MethodName := ⟨RX8, "join", "(IZI)I"⟩
abbrev cX8_drop : ByteArray := prog_1_method_6_code
def yX8_drop : MethodName := ⟨RX8, "drop", "(I)I"⟩
abbrev cX8_top : ByteArray := prog_1_method_7_code
def yX8_top : MethodName := ⟨RX8, "top", "(I)I"⟩
abbrev cX8_cause : ByteArray := prog_1_method_8_code
def yX8_cause : MethodName := ⟨RX8, "cause", "(II)I"⟩
abbrev cX8_odds : ByteArray := prog_1_method_9_code
def yX8_odds : MethodName := ⟨RX8, "odds", "(III)I"⟩
abbrev cX8_of : ByteArray := prog_1_method_10_code
def yX8_of : MethodName := ⟨RX8, "of", "(III)I"⟩
abbrev cX8_feed : ByteArray := prog_1_method_11_code
def yX8_feed : MethodName := ⟨RX8, "feed", "(I)I"⟩
abbrev cX8_read : ByteArray := prog_1_method_12_code
def yX8_read : MethodName := ⟨RX8, "read", "()I"⟩
abbrev cX8_obey : ByteArray := prog_1_method_13_code
def yX8_obey : MethodName := ⟨RX8, "obey", "(I)I"⟩
abbrev cX8_fails : ByteArray := prog_1_method_14_code
def yX8_fails : MethodName := ⟨RX8, "fails", "(II)I"⟩
abbrev cX8_move : ByteArray := prog_1_method_15_code
def yX8_move : MethodName := ⟨RX8, "move", "(II)I"⟩
abbrev cX8_sift : ByteArray := prog_1_method_16_code
def yX8_sift : MethodName := ⟨RX8, "sift", "(I)I"⟩
abbrev cX8_sifted : ByteArray := prog_1_method_17_code
def yX8_sifted : MethodName := ⟨RX8, "sifted", "(I)I"⟩
abbrev cX8_at : ByteArray := prog_1_method_18_code
def yX8_at : MethodName := ⟨RX8, "at", "(I)I"⟩
abbrev cX8_node : ByteArray := prog_1_method_19_code
def yX8_node : MethodName := ⟨RX8, "node", "(II)I"⟩
abbrev cX8_told : ByteArray := prog_1_method_20_code
def yX8_told : MethodName := ⟨RX8, "told", "(I)I"⟩
abbrev cX8_toldOfTop : ByteArray := prog_1_method_21_code
def yX8_toldOfTop : MethodName := ⟨RX8, "toldOfTop", "(I)I"⟩
abbrev cX8_sameness : ByteArray := prog_1_method_22_code
def yX8_sameness : MethodName := ⟨RX8, "sameness", "(J)I"⟩
abbrev cX8_cut : ByteArray := prog_1_method_23_code
def yX8_cut : MethodName := ⟨RX8, "cut", "(I)I"⟩
abbrev cX8_path : ByteArray := prog_1_method_24_code
def yX8_path : MethodName := ⟨RX8, "path", "(I)I"⟩
abbrev cX8_listCutsNow : ByteArray := prog_1_method_25_code
def yX8_listCutsNow : MethodName := ⟨RX8, "listCutsNow", "()I"⟩
abbrev cX8_chance : ByteArray := prog_1_method_26_code
def yX8_chance : MethodName := ⟨RX8, "chance", "(I)J"⟩
abbrev cX8_given : ByteArray := prog_1_method_27_code
def yX8_given : MethodName := ⟨RX8, "given", "(IZI)J"⟩
abbrev cX8_weight : ByteArray := prog_1_method_28_code
def yX8_weight : MethodName := ⟨RX8, "weight", "(II)J"⟩
abbrev cX8_see : ByteArray := prog_1_method_29_code
def yX8_see : MethodName := ⟨RX8, "see", "(IZ)I"⟩
abbrev cX8_fits : ByteArray := prog_1_method_30_code
def yX8_fits : MethodName := ⟨RX8, "fits", "(II)I"⟩
abbrev cX8_isAsSeen : ByteArray := prog_1_method_31_code
def yX8_isAsSeen : MethodName := ⟨RX8, "isAsSeen", "(J)Z"⟩
abbrev cX8_mean : ByteArray := prog_1_method_32_code
def yX8_mean : MethodName := ⟨RX8, "mean", "(I)J"⟩
abbrev cX8_event : ByteArray := prog_1_method_33_code
def yX8_event : MethodName := ⟨RX8, "event", "(II)I"⟩
abbrev cX8_after : ByteArray := prog_1_method_34_code
def yX8_after : MethodName := ⟨RX8, "after", "(I)I"⟩
abbrev cX8_book : ByteArray := prog_1_method_35_code
def yX8_book : MethodName := ⟨RX8, "book", "(I)I"⟩
abbrev cX8_looked : ByteArray := prog_1_method_36_code
def yX8_looked : MethodName := ⟨RX8, "looked", "()I"⟩
abbrev cX8_judge : ByteArray := prog_1_method_37_code
def yX8_judge : MethodName := ⟨RX8, "judge", "(II)I"⟩
abbrev cX8_image : ByteArray := prog_1_method_38_code
def yX8_image : MethodName := ⟨RX8, "image", "()I"⟩
abbrev cX8_undo : ByteArray := prog_1_method_39_code
def yX8_undo : MethodName := ⟨RX8, "undo", "()I"⟩
abbrev cX8_count : ByteArray := prog_1_method_40_code
def yX8_count : MethodName := ⟨RX8, "count", "(I)I"⟩
abbrev cX8_tape : ByteArray := prog_1_method_41_code
def yX8_tape : MethodName := ⟨RX8, "tape", "(III)I"⟩
abbrev cX8_item : ByteArray := prog_1_method_42_code
def yX8_item : MethodName := ⟨RX8, "item", "(IIJ)I"⟩
abbrev cX8_peek : ByteArray := prog_1_method_43_code
def yX8_peek : MethodName := ⟨RX8, "peek", "(II)J"⟩
abbrev cX8_shift : ByteArray := prog_1_method_44_code
def yX8_shift : MethodName := ⟨RX8, "shift", "(IIIII)I"⟩
abbrev cX8_tapeOf : ByteArray := prog_1_method_45_code
def yX8_tapeOf : MethodName := ⟨RX8, "tapeOf", "(I)LFaultGraph$Tape;"⟩
abbrev cX8_isOdds : ByteArray := prog_1_method_46_code
def yX8_isOdds : MethodName := ⟨RX8, "isOdds", "(I)Z"⟩
abbrev cX8_isKind : ByteArray := prog_1_method_47_code
def yX8_isKind : MethodName := ⟨RX8, "isKind", "(I)Z"⟩
abbrev cX8_isNeed : ByteArray := prog_1_method_48_code
def yX8_isNeed : MethodName := ⟨RX8, "isNeed", "(I)Z"⟩
abbrev cX8_isLine : ByteArray := prog_1_method_49_code
def yX8_isLine : MethodName := ⟨RX8, "isLine", "(I)Z"⟩
abbrev cX8_says : ByteArray := prog_1_method_50_code
def yX8_says : MethodName := ⟨RX8, "says", "(JI)Z"⟩
abbrev cX8_lowest : ByteArray := prog_1_method_51_code
def yX8_lowest : MethodName := ⟨RX8, "lowest", "(JJI)J"⟩
abbrev cX8_commonDivisor : ByteArray := prog_1_method_52_code
def yX8_commonDivisor : MethodName := ⟨RX8, "commonDivisor", "(JJ)J"⟩
def RX9 : String := "FaultGraphModel"
def TX9 : u_T := fun k => match k with
  | 0 => ("FaultGraphModel", "parts", "I", false)
  | 1 => ("FaultGraphModel", "odds", "[I", true)
  | 2 => ("FaultGraphModel", "order", "[I", true)
  | 3 => ("FaultGraphModel", "gates", "I", false)
  | 4 => ("FaultGraphModel", "kind", "[I", true)
  | 5 => ("FaultGraphModel", "some", "[I", true)
  | 6 => ("FaultGraphModel", "joined", "[I", true)
  | 7 => ("FaultGraphModel", "input", "[I", true)
  | 8 => ("FaultGraphModel", "top", "I", false)
  | 9 => ("FaultGraphModel", "causes", "I", false)
  | 10 => ("FaultGraphModel", "happens", "[I", true)
  | 11 => ("FaultGraphModel", "breaks", "[I", true)
  | 12 => ("FaultGraphModel", "seen", "I", false)
  | 13 => ("FaultGraphModel", "sight", "[I", true)
  | 14 => ("FaultGraphModel", "sightIs", "[I", true)
  | 15 => ("FaultGraphModel", "events", "I", false)
  | 16 => ("FaultGraphModel", "event", "[I", true)
  | 17 => ("FaultGraphModel", "inBook", "I", false)
  | 18 => ("FaultGraphModel", "book", "[I", true)
  | 19 => ("FaultGraphModel", "texted", "I", false)
  | 20 => ("FaultGraphModel", "text", "[I", true)
  | 21 => ("FaultGraphModel", "failing", "[Z", true)
  | 22 => ("FaultGraphModel", "nodes", "I", false)
  | 23 => ("FaultGraphModel", "function", "[J", true)
  | 24 => ("FaultGraphModel", "hangs", "[I", true)
  | 25 => ("FaultGraphModel", "works", "[I", true)
  | 26 => ("FaultGraphModel", "fails", "[I", true)
  | 27 => ("FaultGraphModel", "sets", "I", false)
  | 28 => ("FaultGraphModel", "set", "[I", true)
  | 29 => ("FaultGraphModel", "then", "[I", true)
  | 30 => ("FaultGraphModel", "imaged", "Z", false)
  | 31 => ("FaultGraphModel", "image", "[I", true)
  | 32 => ("FaultGraphModel", "tapeSort", "[I", true)
  | 33 => ("FaultGraphModel", "tapeSize", "[I", true)
  | _ => ("FaultGraphModel", "items", "[J", true)
def tyX9 : Nat → FieldType := fun k => match k with
  | 0 => .int
  | 1 => .array .int
  | 2 => .array .int
  | 3 => .int
  | 4 => .array .int
  | 5 => .array .int
  | 6 => .array .int
  | 7 => .array .int
  | 8 => .int
  | 9 => .int
  | 10 => .array .int
  | 11 => .array .int
  | 12 => .int
  | 13 => .array .int
  | 14 => .array .int
  | 15 => .int
  | 16 => .array .int
  | 17 => .int
  | 18 => .array .int
  | 19 => .int
  | 20 => .array .int
  | 21 => .array .boolean
  | 22 => .int
  | 23 => .array .long
  | 24 => .array .int
  | 25 => .array .int
  | 26 => .array .int
  | 27 => .int
  | 28 => .array .int
  | 29 => .array .int
  | 30 => .boolean
  | 31 => .array .int
  | 32 => .array .int
  | 33 => .array .int
  | _ => .array .long
abbrev wsX90 : List Cond := u_ws RX9 TX9 35
theorem nmX9 : ∀ a, a < 35 → ∀ b, b < 35 → a ≠ b → (TX9 a).2.1 ≠ (TX9 b).2.1 := by decide +kernel
theorem tyX9_ok : ∀ k, k < 35 → parseFieldDescriptor (TX9 k).2.2.1 = some (tyX9 k) := by decide +kernel
abbrev cX9_init : ByteArray := prog_11_method_1_code
def yX9_init : MethodName := ⟨RX9, "<init>", "()V"⟩
abbrev cX9_within : ByteArray := prog_11_method_2_code
def yX9_within : MethodName := ⟨RX9, "within", "(III)Z"⟩
abbrev cX9_isPart : ByteArray := prog_11_method_3_code
def yX9_isPart : MethodName := ⟨RX9, "isPart", "(I)Z"⟩
abbrev cX9_isGate : ByteArray := prog_11_method_4_code
def yX9_isGate : MethodName := ⟨RX9, "isGate", "(I)Z"⟩
abbrev cX9_isSet : ByteArray := prog_11_method_5_code
def yX9_isSet : MethodName := ⟨RX9, "isSet", "(I)Z"⟩
abbrev cX9_isOdds : ByteArray := prog_11_method_6_code
def yX9_isOdds : MethodName := ⟨RX9, "isOdds", "(I)Z"⟩
abbrev cX9_part : ByteArray := prog_11_method_7_code
def yX9_part : MethodName := ⟨RX9, "part", "(I)I"⟩
abbrev cX9_isKind : ByteArray := prog_11_method_8_code
def yX9_isKind : MethodName := ⟨RX9, "isKind", "(II)Z"⟩
abbrev cX9_gate : ByteArray := prog_11_method_9_code
def yX9_gate : MethodName := ⟨RX9, "gate", "(II)I"⟩
abbrev cX9_turn : ByteArray := prog_11_method_10_code
def yX9_turn : MethodName := ⟨RX9, "turn", "(III)I"⟩
abbrev cX9_join : ByteArray := prog_11_method_11_code
def yX9_join : MethodName := ⟨RX9, "join", "(IZI)I"⟩
abbrev cX9_drop : ByteArray := prog_11_method_12_code
def yX9_drop : MethodName := ⟨RX9, "drop", "(I)I"⟩
abbrev cX9_topmost : ByteArray := prog_11_method_13_code
def yX9_topmost : MethodName := ⟨RX9, "topmost", "()I"⟩
abbrev cX9_top : ByteArray := prog_11_method_14_code
def yX9_top : MethodName := ⟨RX9, "top", "(I)I"⟩
abbrev cX9_cause : ByteArray := prog_11_method_15_code
def yX9_cause : MethodName := ⟨RX9, "cause", "(II)I"⟩
abbrev cX9_odds : ByteArray := prog_11_method_16_code
def yX9_odds : MethodName := ⟨RX9, "odds", "(III)I"⟩
abbrev cX9_placeOf : ByteArray := prog_11_method_17_code
def yX9_placeOf : MethodName := ⟨RX9, "placeOf", "(I)I"⟩
abbrev cX9_ofGate : ByteArray := prog_11_method_18_code
def yX9_ofGate : MethodName := ⟨RX9, "ofGate", "(II)I"⟩
abbrev cX9_of : ByteArray := prog_11_method_19_code
def yX9_of : MethodName := ⟨RX9, "of", "(III)I"⟩
abbrev cX9_feed : ByteArray := prog_11_method_20_code
def yX9_feed : MethodName := ⟨RX9, "feed", "(I)I"⟩
abbrev cX9_signAt : ByteArray := prog_11_method_21_code
def yX9_signAt : MethodName := ⟨RX9, "signAt", "(I)I"⟩
abbrev cX9_isDigit : ByteArray := prog_11_method_22_code
def yX9_isDigit : MethodName := ⟨RX9, "isDigit", "(I)Z"⟩
abbrev cX9_behindOdds : ByteArray := prog_11_method_23_code
def yX9_behindOdds : MethodName := ⟨RX9, "behindOdds", "(I)I"⟩
abbrev cX9_behindParts : ByteArray := prog_11_method_24_code
def yX9_behindParts : MethodName := ⟨RX9, "behindParts", "(I)I"⟩
abbrev cX9_behind : ByteArray := prog_11_method_25_code
def yX9_behind : MethodName := ⟨RX9, "behind", "(I)I"⟩
abbrev cX9_fault : ByteArray := prog_11_method_26_code
def yX9_fault : MethodName := ⟨RX9, "fault", "()I"⟩
abbrev cX9_number : ByteArray := prog_11_method_27_code
def yX9_number : MethodName := ⟨RX9, "number", "(II)I"⟩
abbrev cX9_does : ByteArray := prog_11_method_28_code
def yX9_does : MethodName := ⟨RX9, "does", "(II)Z"⟩
abbrev cX9_read : ByteArray := prog_11_method_29_code
def yX9_read : MethodName := ⟨RX9, "read", "()I"⟩
abbrev cX9_fallsBy : ByteArray := prog_11_method_30_code
def yX9_fallsBy : MethodName := ⟨RX9, "fallsBy", "(II)Z"⟩
abbrev cX9_fallsAt : ByteArray := prog_11_method_31_code
def yX9_fallsAt : MethodName := ⟨RX9, "fallsAt", "(II)Z"⟩
abbrev cX9_isDown : ByteArray := prog_11_method_32_code
def yX9_isDown : MethodName := ⟨RX9, "isDown", "(I)Z"⟩
abbrev cX9_fails : ByteArray := prog_11_method_33_code
def yX9_fails : MethodName := ⟨RX9, "fails", "(II)I"⟩
abbrev cX9_goes : ByteArray := prog_11_method_34_code
def yX9_goes : MethodName := ⟨RX9, "goes", "(II)V"⟩
abbrev cX9_move : ByteArray := prog_11_method_35_code
def yX9_move : MethodName := ⟨RX9, "move", "(II)I"⟩
abbrev cX9_at : ByteArray := prog_11_method_36_code
def yX9_at : MethodName := ⟨RX9, "at", "(I)I"⟩
abbrev cX9_all : ByteArray := prog_11_method_37_code
def yX9_all : MethodName := ⟨RX9, "all", "()J"⟩
abbrev cX9_were : ByteArray := prog_11_method_38_code
def yX9_were : MethodName := ⟨RX9, "were", "(JIZ)J"⟩
abbrev cX9_nodeFor : ByteArray := prog_11_method_39_code
def yX9_nodeFor : MethodName := ⟨RX9, "nodeFor", "(J)I"⟩
abbrev cX9_draws : ByteArray := prog_11_method_40_code
def yX9_draws : MethodName := ⟨RX9, "draws", "()I"⟩
abbrev cX9_sift : ByteArray := prog_11_method_41_code
def yX9_sift : MethodName := ⟨RX9, "sift", "(I)I"⟩
abbrev cX9_node : ByteArray := prog_11_method_42_code
def yX9_node : MethodName := ⟨RX9, "node", "(II)I"⟩
abbrev cX9_many : ByteArray := prog_11_method_43_code
def yX9_many : MethodName := ⟨RX9, "many", "(I)I"⟩
abbrev cX9_isOne : ByteArray := prog_11_method_44_code
def yX9_isOne : MethodName := ⟨RX9, "isOne", "(IZ)Z"⟩
abbrev cX9_isLeast : ByteArray := prog_11_method_45_code
def yX9_isLeast : MethodName := ⟨RX9, "isLeast", "(IZ)Z"⟩
abbrev cX9_sets : ByteArray := prog_11_method_46_code
def yX9_sets : MethodName := ⟨RX9, "sets", "(Z)V"⟩
abbrev cX9_setAt : ByteArray := prog_11_method_47_code
def yX9_setAt : MethodName := ⟨RX9, "setAt", "(IZ)I"⟩
abbrev cX9_cut : ByteArray := prog_11_method_48_code
def yX9_cut : MethodName := ⟨RX9, "cut", "(I)I"⟩
abbrev cX9_path : ByteArray := prog_11_method_49_code
def yX9_path : MethodName := ⟨RX9, "path", "(I)I"⟩
abbrev cX9_alone : ByteArray := prog_11_method_50_code
def yX9_alone : MethodName := ⟨RX9, "alone", "(I)J"⟩
abbrev cX9_together : ByteArray := prog_11_method_51_code
def yX9_together : MethodName := ⟨RX9, "together", "(I)J"⟩
abbrev cX9_broken : ByteArray := prog_11_method_52_code
def yX9_broken : MethodName := ⟨RX9, "broken", "(I)I"⟩
abbrev cX9_chance : ByteArray := prog_11_method_53_code
def yX9_chance : MethodName := ⟨RX9, "chance", "()J"⟩
abbrev cX9_whole : ByteArray := prog_11_method_54_code
def yX9_whole : MethodName := ⟨RX9, "whole", "()J"⟩
abbrev cX9_common : ByteArray := prog_11_method_55_code
def yX9_common : MethodName := ⟨RX9, "common", "(JJ)J"⟩
abbrev cX9_line : ByteArray := prog_11_method_56_code
def yX9_line : MethodName := ⟨RX9, "line", "(JJI)J"⟩
abbrev cX9_chance_ : ByteArray := prog_11_method_57_code
def yX9_chance_ : MethodName := ⟨RX9, "chance", "(I)J"⟩
abbrev cX9_given : ByteArray := prog_11_method_58_code
def yX9_given : MethodName := ⟨RX9, "given", "(IZI)J"⟩
abbrev cX9_weight : ByteArray := prog_11_method_59_code
def yX9_weight : MethodName := ⟨RX9, "weight", "(I)J"⟩
abbrev cX9_weight_ : ByteArray := prog_11_method_60_code
def yX9_weight_ : MethodName := ⟨RX9, "weight", "(II)J"⟩
abbrev cX9_most : ByteArray := prog_11_method_61_code
def yX9_most : MethodName := ⟨RX9, "most", "()I"⟩
abbrev cX9_many_ : ByteArray := prog_11_method_62_code
def yX9_many_ : MethodName := ⟨RX9, "many", "(Z)I"⟩
abbrev cX9_drawn : ByteArray := prog_11_method_63_code
def yX9_drawn : MethodName := ⟨RX9, "drawn", "()I"⟩
abbrev cX9_ever : ByteArray := prog_11_method_64_code
def yX9_ever : MethodName := ⟨RX9, "ever", "()I"⟩
abbrev cX9_told : ByteArray := prog_11_method_65_code
def yX9_told : MethodName := ⟨RX9, "told", "(I)I"⟩
abbrev cX9_see : ByteArray := prog_11_method_66_code
def yX9_see : MethodName := ⟨RX9, "see", "(IZ)I"⟩
abbrev cX9_isAllSo : ByteArray := prog_11_method_67_code
def yX9_isAllSo : MethodName := ⟨RX9, "isAllSo", "()Z"⟩
abbrev cX9_fits : ByteArray := prog_11_method_68_code
def yX9_fits : MethodName := ⟨RX9, "fits", "(II)I"⟩
abbrev cX9_mean : ByteArray := prog_11_method_69_code
def yX9_mean : MethodName := ⟨RX9, "mean", "(I)J"⟩
abbrev cX9_event : ByteArray := prog_11_method_70_code
def yX9_event : MethodName := ⟨RX9, "event", "(II)I"⟩
abbrev cX9_after : ByteArray := prog_11_method_71_code
def yX9_after : MethodName := ⟨RX9, "after", "(I)I"⟩
abbrev cX9_book : ByteArray := prog_11_method_72_code
def yX9_book : MethodName := ⟨RX9, "book", "(I)I"⟩
abbrev cX9_isTold : ByteArray := prog_11_method_73_code
def yX9_isTold : MethodName := ⟨RX9, "isTold", "(I)Z"⟩
abbrev cX9_looked : ByteArray := prog_11_method_74_code
def yX9_looked : MethodName := ⟨RX9, "looked", "()I"⟩
abbrev cX9_judge : ByteArray := prog_11_method_75_code
def yX9_judge : MethodName := ⟨RX9, "judge", "(II)I"⟩
abbrev cX9_image : ByteArray := prog_11_method_76_code
def yX9_image : MethodName := ⟨RX9, "image", "()I"⟩
abbrev cX9_undo : ByteArray := prog_11_method_77_code
def yX9_undo : MethodName := ⟨RX9, "undo", "()I"⟩
abbrev cX9_count : ByteArray := prog_11_method_78_code
def yX9_count : MethodName := ⟨RX9, "count", "(I)I"⟩
abbrev cX9_isTape : ByteArray := prog_11_method_79_code
def yX9_isTape : MethodName := ⟨RX9, "isTape", "(I)Z"⟩
abbrev cX9_tape : ByteArray := prog_11_method_80_code
def yX9_tape : MethodName := ⟨RX9, "tape", "(III)I"⟩
abbrev cX9_bits : ByteArray := prog_11_method_81_code
def yX9_bits : MethodName := ⟨RX9, "bits", "(IJ)J"⟩
abbrev cX9_item : ByteArray := prog_11_method_82_code
def yX9_item : MethodName := ⟨RX9, "item", "(IIJ)I"⟩
abbrev cX9_peek : ByteArray := prog_11_method_83_code
def yX9_peek : MethodName := ⟨RX9, "peek", "(II)J"⟩
abbrev cX9_shift : ByteArray := prog_11_method_84_code
def yX9_shift : MethodName := ⟨RX9, "shift", "(IIIII)I"⟩
def RJ6 : String := "java/lang/Integer"
def TJ6 : u_T := fun k => match k with
  | _ => ("", "", "", false)
def tyJ6 : Nat → FieldType := fun k => match k with
  | _ => .int
theorem nmJ6 : ∀ a, a < 0 → ∀ b, b < 0 → a ≠ b → (TJ6 a).2.1 ≠ (TJ6 b).2.1 := by decide +kernel
theorem tyJ6_ok : ∀ k, k < 0 → parseFieldDescriptor (TJ6 k).2.2.1 = some (tyJ6 k) := by decide +kernel
abbrev cJ6_bitCount_0f7a4 : ByteArray := prog_12_method_49_code
def yJ6_bitCount_0f7a4 : MethodName := ⟨RJ6, "bitCount", "(I)I"⟩
def RJ9 : String := "java/lang/Math"
def TJ9 : u_T := fun k => match k with
  | _ => ("", "", "", false)
def tyJ9 : Nat → FieldType := fun k => match k with
  | _ => .int
theorem nmJ9 : ∀ a, a < 0 → ∀ b, b < 0 → a ≠ b → (TJ9 a).2.1 ≠ (TJ9 b).2.1 := by decide +kernel
theorem tyJ9_ok : ∀ k, k < 0 → parseFieldDescriptor (TJ9 k).2.2.1 = some (tyJ9 k) := by decide +kernel
abbrev cJ9_max_7cf53 : ByteArray := prog_13_method_65_code
def yJ9_max_7cf53 : MethodName := ⟨RJ9, "max", "(II)I"⟩
abbrev cJ9_min_7cf53 : ByteArray := prog_13_method_69_code
def yJ9_min_7cf53 : MethodName := ⟨RJ9, "min", "(II)I"⟩
def RJ10 : String := "java/lang/System"
def TJ10 : u_T := fun k => match k with
  | _ => ("", "", "", false)
def tyJ10 : Nat → FieldType := fun k => match k with
  | _ => .int
theorem nmJ10 : ∀ a, a < 0 → ∀ b, b < 0 → a ≠ b → (TJ10 a).2.1 ≠ (TJ10 b).2.1 := by decide +kernel
theorem tyJ10_ok : ∀ k, k < 0 → parseFieldDescriptor (TJ10 k).2.2.1 = some (tyJ10 k) := by decide +kernel
def RL : String := "FaultGraphLaw"
abbrev cL_law : ByteArray := code
def yL_law : MethodName := ⟨RL, "law", "([I)Z"⟩
abbrev vwCl : List vw_C := [(RX0, TX0, 1), (RX1, TX1, 5), (RX2, TX2, 2), (RX3, TX3, 14), (RX4, TX4, 3), (RX5, TX5, 7), (RX6, TX6, 4), (RX7, TX7, 3), (RX8, TX8, 9), (RX9, TX9, 35)]
end
section
theorem dL_law_0 : decode cL_law 0 = .ok (.new 7, 3) := by decide +kernel
theorem dL_law_3 : decode cL_law 3 = .ok (.dup, 1) := by decide +kernel
theorem dL_law_4 : decode cL_law 4 = .ok (.invokespecial 9, 3) := by decide +kernel
theorem dL_law_7 : decode cL_law 7 = .ok (.astore_n 1, 1) := by decide +kernel
theorem dL_law_8 : decode cL_law 8 = .ok (.new 10, 3) := by decide +kernel
theorem dL_law_11 : decode cL_law 11 = .ok (.dup, 1) := by decide +kernel
theorem dL_law_12 : decode cL_law 12 = .ok (.invokespecial 12, 3) := by decide +kernel
theorem dL_law_15 : decode cL_law 15 = .ok (.astore_n 2, 1) := by decide +kernel
theorem dL_law_16 : decode cL_law 16 = .ok (.iconst 0, 1) := by decide +kernel
theorem dL_law_17 : decode cL_law 17 = .ok (.istore_n 3, 1) := by decide +kernel
theorem dL_law_18 : decode cL_law 18 = .ok (.iload_n 3, 1) := by decide +kernel
theorem dL_law_19 : decode cL_law 19 = .ok (.aload_n 0, 1) := by decide +kernel
theorem dL_law_20 : decode cL_law 20 = .ok (.arraylength, 1) := by decide +kernel
theorem dL_law_21 : decode cL_law 21 = .ok (.bipush 6, 2) := by decide +kernel
theorem dL_law_23 : decode cL_law 23 = .ok (.isub, 1) := by decide +kernel
theorem dL_law_24 : decode cL_law 24 = .ok (.if_icmp .gt 1362, 3) := by decide +kernel
theorem dL_law_27 : decode cL_law 27 = .ok (.aload_n 0, 1) := by decide +kernel
theorem dL_law_28 : decode cL_law 28 = .ok (.iload_n 3, 1) := by decide +kernel
theorem dL_law_29 : decode cL_law 29 = .ok (.iaload, 1) := by decide +kernel
theorem dL_law_30 : decode cL_law 30 = .ok (.bipush 63, 2) := by decide +kernel
theorem dL_law_32 : decode cL_law 32 = .ok (.iand, 1) := by decide +kernel
theorem dL_law_33 : decode cL_law 33 = .ok (.tableswitch 1347 0 36 #[163, 186, 219, 262, 321, 344, 367, 400, 443, 486, 509, 522, 555, 588, 611, 634, 667, 690, 713, 736, 760, 820, 854, 903, 936, 960, 993, 1016, 1039, 1052, 1085, 1098, 1111, 1134, 1177, 1250, 1284], 163) := by decide +kernel
theorem dL_law_196 : decode cL_law 196 = .ok (.aload_n 1, 1) := by decide +kernel
theorem dL_law_197 : decode cL_law 197 = .ok (.aload_n 0, 1) := by decide +kernel
theorem dL_law_198 : decode cL_law 198 = .ok (.iload_n 3, 1) := by decide +kernel
theorem dL_law_199 : decode cL_law 199 = .ok (.iconst 1, 1) := by decide +kernel
theorem dL_law_200 : decode cL_law 200 = .ok (.iadd, 1) := by decide +kernel
theorem dL_law_201 : decode cL_law 201 = .ok (.iaload, 1) := by decide +kernel
theorem dL_law_202 : decode cL_law 202 = .ok (.invokevirtual 13, 3) := by decide +kernel
theorem dL_law_205 : decode cL_law 205 = .ok (.aload_n 2, 1) := by decide +kernel
theorem dL_law_206 : decode cL_law 206 = .ok (.aload_n 0, 1) := by decide +kernel
theorem dL_law_207 : decode cL_law 207 = .ok (.iload_n 3, 1) := by decide +kernel
theorem dL_law_208 : decode cL_law 208 = .ok (.iconst 1, 1) := by decide +kernel
theorem dL_law_209 : decode cL_law 209 = .ok (.iadd, 1) := by decide +kernel
theorem dL_law_210 : decode cL_law 210 = .ok (.iaload, 1) := by decide +kernel
theorem dL_law_211 : decode cL_law 211 = .ok (.invokevirtual 17, 3) := by decide +kernel
theorem dL_law_214 : decode cL_law 214 = .ok (.if_icmp .eq 1166, 3) := by decide +kernel
theorem dL_law_217 : decode cL_law 217 = .ok (.iconst 0, 1) := by decide +kernel
theorem dL_law_218 : decode cL_law 218 = .ok (.ireturn, 1) := by decide +kernel
theorem dL_law_219 : decode cL_law 219 = .ok (.aload_n 1, 1) := by decide +kernel
theorem dL_law_220 : decode cL_law 220 = .ok (.aload_n 0, 1) := by decide +kernel
theorem dL_law_221 : decode cL_law 221 = .ok (.iload_n 3, 1) := by decide +kernel
theorem dL_law_222 : decode cL_law 222 = .ok (.iconst 1, 1) := by decide +kernel
theorem dL_law_223 : decode cL_law 223 = .ok (.iadd, 1) := by decide +kernel
theorem dL_law_224 : decode cL_law 224 = .ok (.iaload, 1) := by decide +kernel
theorem dL_law_225 : decode cL_law 225 = .ok (.aload_n 0, 1) := by decide +kernel
theorem dL_law_226 : decode cL_law 226 = .ok (.iload_n 3, 1) := by decide +kernel
theorem dL_law_227 : decode cL_law 227 = .ok (.iconst 2, 1) := by decide +kernel
theorem dL_law_228 : decode cL_law 228 = .ok (.iadd, 1) := by decide +kernel
theorem dL_law_229 : decode cL_law 229 = .ok (.iaload, 1) := by decide +kernel
theorem dL_law_230 : decode cL_law 230 = .ok (.invokevirtual 18, 3) := by decide +kernel
theorem dL_law_233 : decode cL_law 233 = .ok (.aload_n 2, 1) := by decide +kernel
theorem dL_law_234 : decode cL_law 234 = .ok (.aload_n 0, 1) := by decide +kernel
theorem dL_law_235 : decode cL_law 235 = .ok (.iload_n 3, 1) := by decide +kernel
theorem dL_law_236 : decode cL_law 236 = .ok (.iconst 1, 1) := by decide +kernel
theorem dL_law_237 : decode cL_law 237 = .ok (.iadd, 1) := by decide +kernel
theorem dL_law_238 : decode cL_law 238 = .ok (.iaload, 1) := by decide +kernel
theorem dL_law_239 : decode cL_law 239 = .ok (.aload_n 0, 1) := by decide +kernel
theorem dL_law_240 : decode cL_law 240 = .ok (.iload_n 3, 1) := by decide +kernel
theorem dL_law_241 : decode cL_law 241 = .ok (.iconst 2, 1) := by decide +kernel
theorem dL_law_242 : decode cL_law 242 = .ok (.iadd, 1) := by decide +kernel
theorem dL_law_243 : decode cL_law 243 = .ok (.iaload, 1) := by decide +kernel
theorem dL_law_244 : decode cL_law 244 = .ok (.invokevirtual 22, 3) := by decide +kernel
theorem dL_law_247 : decode cL_law 247 = .ok (.if_icmp .eq 1133, 3) := by decide +kernel
theorem dL_law_250 : decode cL_law 250 = .ok (.iconst 0, 1) := by decide +kernel
theorem dL_law_251 : decode cL_law 251 = .ok (.ireturn, 1) := by decide +kernel
theorem dL_law_252 : decode cL_law 252 = .ok (.aload_n 1, 1) := by decide +kernel
theorem dL_law_253 : decode cL_law 253 = .ok (.aload_n 0, 1) := by decide +kernel
theorem dL_law_254 : decode cL_law 254 = .ok (.iload_n 3, 1) := by decide +kernel
theorem dL_law_255 : decode cL_law 255 = .ok (.iconst 1, 1) := by decide +kernel
theorem dL_law_256 : decode cL_law 256 = .ok (.iadd, 1) := by decide +kernel
theorem dL_law_257 : decode cL_law 257 = .ok (.iaload, 1) := by decide +kernel
theorem dL_law_258 : decode cL_law 258 = .ok (.aload_n 0, 1) := by decide +kernel
theorem dL_law_259 : decode cL_law 259 = .ok (.iload_n 3, 1) := by decide +kernel
theorem dL_law_260 : decode cL_law 260 = .ok (.iconst 2, 1) := by decide +kernel
theorem dL_law_261 : decode cL_law 261 = .ok (.iadd, 1) := by decide +kernel
theorem dL_law_262 : decode cL_law 262 = .ok (.iaload, 1) := by decide +kernel
theorem dL_law_263 : decode cL_law 263 = .ok (.aload_n 0, 1) := by decide +kernel
theorem dL_law_264 : decode cL_law 264 = .ok (.iload_n 3, 1) := by decide +kernel
theorem dL_law_265 : decode cL_law 265 = .ok (.iconst 3, 1) := by decide +kernel
theorem dL_law_266 : decode cL_law 266 = .ok (.iadd, 1) := by decide +kernel
theorem dL_law_267 : decode cL_law 267 = .ok (.iaload, 1) := by decide +kernel
theorem dL_law_268 : decode cL_law 268 = .ok (.invokevirtual 23, 3) := by decide +kernel
theorem dL_law_271 : decode cL_law 271 = .ok (.aload_n 2, 1) := by decide +kernel
theorem dL_law_272 : decode cL_law 272 = .ok (.aload_n 0, 1) := by decide +kernel
theorem dL_law_273 : decode cL_law 273 = .ok (.iload_n 3, 1) := by decide +kernel
theorem dL_law_274 : decode cL_law 274 = .ok (.iconst 1, 1) := by decide +kernel
theorem dL_law_275 : decode cL_law 275 = .ok (.iadd, 1) := by decide +kernel
theorem dL_law_276 : decode cL_law 276 = .ok (.iaload, 1) := by decide +kernel
theorem dL_law_277 : decode cL_law 277 = .ok (.aload_n 0, 1) := by decide +kernel
theorem dL_law_278 : decode cL_law 278 = .ok (.iload_n 3, 1) := by decide +kernel
theorem dL_law_279 : decode cL_law 279 = .ok (.iconst 2, 1) := by decide +kernel
theorem dL_law_280 : decode cL_law 280 = .ok (.iadd, 1) := by decide +kernel
theorem dL_law_281 : decode cL_law 281 = .ok (.iaload, 1) := by decide +kernel
theorem dL_law_282 : decode cL_law 282 = .ok (.aload_n 0, 1) := by decide +kernel
theorem dL_law_283 : decode cL_law 283 = .ok (.iload_n 3, 1) := by decide +kernel
theorem dL_law_284 : decode cL_law 284 = .ok (.iconst 3, 1) := by decide +kernel
theorem dL_law_285 : decode cL_law 285 = .ok (.iadd, 1) := by decide +kernel
theorem dL_law_286 : decode cL_law 286 = .ok (.iaload, 1) := by decide +kernel
theorem dL_law_287 : decode cL_law 287 = .ok (.invokevirtual 27, 3) := by decide +kernel
theorem dL_law_290 : decode cL_law 290 = .ok (.if_icmp .eq 1090, 3) := by decide +kernel
theorem dL_law_293 : decode cL_law 293 = .ok (.iconst 0, 1) := by decide +kernel
theorem dL_law_294 : decode cL_law 294 = .ok (.ireturn, 1) := by decide +kernel
theorem dL_law_295 : decode cL_law 295 = .ok (.aload_n 1, 1) := by decide +kernel
theorem dL_law_296 : decode cL_law 296 = .ok (.aload_n 0, 1) := by decide +kernel
theorem dL_law_297 : decode cL_law 297 = .ok (.iload_n 3, 1) := by decide +kernel
theorem dL_law_298 : decode cL_law 298 = .ok (.iconst 1, 1) := by decide +kernel
theorem dL_law_299 : decode cL_law 299 = .ok (.iadd, 1) := by decide +kernel
theorem dL_law_300 : decode cL_law 300 = .ok (.iaload, 1) := by decide +kernel
theorem dL_law_301 : decode cL_law 301 = .ok (.aload_n 0, 1) := by decide +kernel
theorem dL_law_302 : decode cL_law 302 = .ok (.iload_n 3, 1) := by decide +kernel
theorem dL_law_303 : decode cL_law 303 = .ok (.iconst 2, 1) := by decide +kernel
theorem dL_law_304 : decode cL_law 304 = .ok (.iadd, 1) := by decide +kernel
theorem dL_law_305 : decode cL_law 305 = .ok (.iaload, 1) := by decide +kernel
theorem dL_law_306 : decode cL_law 306 = .ok (.ifCond .eq 7, 3) := by decide +kernel
theorem dL_law_309 : decode cL_law 309 = .ok (.iconst 1, 1) := by decide +kernel
theorem dL_law_310 : decode cL_law 310 = .ok (.goto 4, 3) := by decide +kernel
theorem dL_law_313 : decode cL_law 313 = .ok (.iconst 0, 1) := by decide +kernel
theorem dL_law_314 : decode cL_law 314 = .ok (.aload_n 0, 1) := by decide +kernel
theorem dL_law_315 : decode cL_law 315 = .ok (.iload_n 3, 1) := by decide +kernel
theorem dL_law_316 : decode cL_law 316 = .ok (.iconst 3, 1) := by decide +kernel
theorem dL_law_317 : decode cL_law 317 = .ok (.iadd, 1) := by decide +kernel
theorem dL_law_318 : decode cL_law 318 = .ok (.iaload, 1) := by decide +kernel
theorem dL_law_319 : decode cL_law 319 = .ok (.invokevirtual 28, 3) := by decide +kernel
theorem dL_law_322 : decode cL_law 322 = .ok (.aload_n 2, 1) := by decide +kernel
theorem dL_law_323 : decode cL_law 323 = .ok (.aload_n 0, 1) := by decide +kernel
theorem dL_law_324 : decode cL_law 324 = .ok (.iload_n 3, 1) := by decide +kernel
theorem dL_law_325 : decode cL_law 325 = .ok (.iconst 1, 1) := by decide +kernel
theorem dL_law_326 : decode cL_law 326 = .ok (.iadd, 1) := by decide +kernel
theorem dL_law_327 : decode cL_law 327 = .ok (.iaload, 1) := by decide +kernel
theorem dL_law_328 : decode cL_law 328 = .ok (.aload_n 0, 1) := by decide +kernel
theorem dL_law_329 : decode cL_law 329 = .ok (.iload_n 3, 1) := by decide +kernel
theorem dL_law_330 : decode cL_law 330 = .ok (.iconst 2, 1) := by decide +kernel
theorem dL_law_331 : decode cL_law 331 = .ok (.iadd, 1) := by decide +kernel
theorem dL_law_332 : decode cL_law 332 = .ok (.iaload, 1) := by decide +kernel
theorem dL_law_333 : decode cL_law 333 = .ok (.ifCond .eq 7, 3) := by decide +kernel
theorem dL_law_336 : decode cL_law 336 = .ok (.iconst 1, 1) := by decide +kernel
theorem dL_law_337 : decode cL_law 337 = .ok (.goto 4, 3) := by decide +kernel
theorem dL_law_340 : decode cL_law 340 = .ok (.iconst 0, 1) := by decide +kernel
theorem dL_law_341 : decode cL_law 341 = .ok (.aload_n 0, 1) := by decide +kernel
theorem dL_law_342 : decode cL_law 342 = .ok (.iload_n 3, 1) := by decide +kernel
theorem dL_law_343 : decode cL_law 343 = .ok (.iconst 3, 1) := by decide +kernel
theorem dL_law_344 : decode cL_law 344 = .ok (.iadd, 1) := by decide +kernel
theorem dL_law_345 : decode cL_law 345 = .ok (.iaload, 1) := by decide +kernel
theorem dL_law_346 : decode cL_law 346 = .ok (.invokevirtual 32, 3) := by decide +kernel
theorem dL_law_349 : decode cL_law 349 = .ok (.if_icmp .eq 1031, 3) := by decide +kernel
theorem dL_law_352 : decode cL_law 352 = .ok (.iconst 0, 1) := by decide +kernel
theorem dL_law_353 : decode cL_law 353 = .ok (.ireturn, 1) := by decide +kernel
theorem dL_law_354 : decode cL_law 354 = .ok (.aload_n 1, 1) := by decide +kernel
theorem dL_law_355 : decode cL_law 355 = .ok (.aload_n 0, 1) := by decide +kernel
theorem dL_law_356 : decode cL_law 356 = .ok (.iload_n 3, 1) := by decide +kernel
theorem dL_law_357 : decode cL_law 357 = .ok (.iconst 1, 1) := by decide +kernel
theorem dL_law_358 : decode cL_law 358 = .ok (.iadd, 1) := by decide +kernel
theorem dL_law_359 : decode cL_law 359 = .ok (.iaload, 1) := by decide +kernel
theorem dL_law_360 : decode cL_law 360 = .ok (.invokevirtual 33, 3) := by decide +kernel
theorem dL_law_363 : decode cL_law 363 = .ok (.aload_n 2, 1) := by decide +kernel
theorem dL_law_364 : decode cL_law 364 = .ok (.aload_n 0, 1) := by decide +kernel
theorem dL_law_365 : decode cL_law 365 = .ok (.iload_n 3, 1) := by decide +kernel
theorem dL_law_366 : decode cL_law 366 = .ok (.iconst 1, 1) := by decide +kernel
theorem dL_law_367 : decode cL_law 367 = .ok (.iadd, 1) := by decide +kernel
theorem dL_law_368 : decode cL_law 368 = .ok (.iaload, 1) := by decide +kernel
theorem dL_law_369 : decode cL_law 369 = .ok (.invokevirtual 36, 3) := by decide +kernel
theorem dL_law_372 : decode cL_law 372 = .ok (.if_icmp .eq 1008, 3) := by decide +kernel
theorem dL_law_375 : decode cL_law 375 = .ok (.iconst 0, 1) := by decide +kernel
theorem dL_law_376 : decode cL_law 376 = .ok (.ireturn, 1) := by decide +kernel
theorem dL_law_377 : decode cL_law 377 = .ok (.aload_n 1, 1) := by decide +kernel
theorem dL_law_378 : decode cL_law 378 = .ok (.aload_n 0, 1) := by decide +kernel
theorem dL_law_379 : decode cL_law 379 = .ok (.iload_n 3, 1) := by decide +kernel
theorem dL_law_380 : decode cL_law 380 = .ok (.iconst 1, 1) := by decide +kernel
theorem dL_law_381 : decode cL_law 381 = .ok (.iadd, 1) := by decide +kernel
theorem dL_law_382 : decode cL_law 382 = .ok (.iaload, 1) := by decide +kernel
theorem dL_law_383 : decode cL_law 383 = .ok (.invokevirtual 37, 3) := by decide +kernel
theorem dL_law_386 : decode cL_law 386 = .ok (.aload_n 2, 1) := by decide +kernel
theorem dL_law_387 : decode cL_law 387 = .ok (.aload_n 0, 1) := by decide +kernel
theorem dL_law_388 : decode cL_law 388 = .ok (.iload_n 3, 1) := by decide +kernel
theorem dL_law_389 : decode cL_law 389 = .ok (.iconst 1, 1) := by decide +kernel
theorem dL_law_390 : decode cL_law 390 = .ok (.iadd, 1) := by decide +kernel
theorem dL_law_391 : decode cL_law 391 = .ok (.iaload, 1) := by decide +kernel
theorem dL_law_392 : decode cL_law 392 = .ok (.invokevirtual 40, 3) := by decide +kernel
theorem dL_law_395 : decode cL_law 395 = .ok (.if_icmp .eq 985, 3) := by decide +kernel
theorem dL_law_398 : decode cL_law 398 = .ok (.iconst 0, 1) := by decide +kernel
theorem dL_law_399 : decode cL_law 399 = .ok (.ireturn, 1) := by decide +kernel
theorem dL_law_400 : decode cL_law 400 = .ok (.aload_n 1, 1) := by decide +kernel
theorem dL_law_401 : decode cL_law 401 = .ok (.aload_n 0, 1) := by decide +kernel
theorem dL_law_402 : decode cL_law 402 = .ok (.iload_n 3, 1) := by decide +kernel
theorem dL_law_403 : decode cL_law 403 = .ok (.iconst 1, 1) := by decide +kernel
theorem dL_law_404 : decode cL_law 404 = .ok (.iadd, 1) := by decide +kernel
theorem dL_law_405 : decode cL_law 405 = .ok (.iaload, 1) := by decide +kernel
theorem dL_law_406 : decode cL_law 406 = .ok (.aload_n 0, 1) := by decide +kernel
theorem dL_law_407 : decode cL_law 407 = .ok (.iload_n 3, 1) := by decide +kernel
theorem dL_law_408 : decode cL_law 408 = .ok (.iconst 2, 1) := by decide +kernel
theorem dL_law_409 : decode cL_law 409 = .ok (.iadd, 1) := by decide +kernel
theorem dL_law_410 : decode cL_law 410 = .ok (.iaload, 1) := by decide +kernel
theorem dL_law_411 : decode cL_law 411 = .ok (.invokevirtual 41, 3) := by decide +kernel
theorem dL_law_414 : decode cL_law 414 = .ok (.aload_n 2, 1) := by decide +kernel
theorem dL_law_415 : decode cL_law 415 = .ok (.aload_n 0, 1) := by decide +kernel
theorem dL_law_416 : decode cL_law 416 = .ok (.iload_n 3, 1) := by decide +kernel
theorem dL_law_417 : decode cL_law 417 = .ok (.iconst 1, 1) := by decide +kernel
theorem dL_law_418 : decode cL_law 418 = .ok (.iadd, 1) := by decide +kernel
theorem dL_law_419 : decode cL_law 419 = .ok (.iaload, 1) := by decide +kernel
theorem dL_law_420 : decode cL_law 420 = .ok (.aload_n 0, 1) := by decide +kernel
theorem dL_law_421 : decode cL_law 421 = .ok (.iload_n 3, 1) := by decide +kernel
theorem dL_law_422 : decode cL_law 422 = .ok (.iconst 2, 1) := by decide +kernel
theorem dL_law_423 : decode cL_law 423 = .ok (.iadd, 1) := by decide +kernel
theorem dL_law_424 : decode cL_law 424 = .ok (.iaload, 1) := by decide +kernel
theorem dL_law_425 : decode cL_law 425 = .ok (.invokevirtual 44, 3) := by decide +kernel
theorem dL_law_428 : decode cL_law 428 = .ok (.if_icmp .eq 952, 3) := by decide +kernel
theorem dL_law_431 : decode cL_law 431 = .ok (.iconst 0, 1) := by decide +kernel
theorem dL_law_432 : decode cL_law 432 = .ok (.ireturn, 1) := by decide +kernel
theorem dL_law_433 : decode cL_law 433 = .ok (.aload_n 1, 1) := by decide +kernel
theorem dL_law_434 : decode cL_law 434 = .ok (.aload_n 0, 1) := by decide +kernel
theorem dL_law_435 : decode cL_law 435 = .ok (.iload_n 3, 1) := by decide +kernel
theorem dL_law_436 : decode cL_law 436 = .ok (.iconst 1, 1) := by decide +kernel
theorem dL_law_437 : decode cL_law 437 = .ok (.iadd, 1) := by decide +kernel
theorem dL_law_438 : decode cL_law 438 = .ok (.iaload, 1) := by decide +kernel
theorem dL_law_439 : decode cL_law 439 = .ok (.aload_n 0, 1) := by decide +kernel
theorem dL_law_440 : decode cL_law 440 = .ok (.iload_n 3, 1) := by decide +kernel
theorem dL_law_441 : decode cL_law 441 = .ok (.iconst 2, 1) := by decide +kernel
theorem dL_law_442 : decode cL_law 442 = .ok (.iadd, 1) := by decide +kernel
theorem dL_law_443 : decode cL_law 443 = .ok (.iaload, 1) := by decide +kernel
theorem dL_law_444 : decode cL_law 444 = .ok (.aload_n 0, 1) := by decide +kernel
theorem dL_law_445 : decode cL_law 445 = .ok (.iload_n 3, 1) := by decide +kernel
theorem dL_law_446 : decode cL_law 446 = .ok (.iconst 3, 1) := by decide +kernel
theorem dL_law_447 : decode cL_law 447 = .ok (.iadd, 1) := by decide +kernel
theorem dL_law_448 : decode cL_law 448 = .ok (.iaload, 1) := by decide +kernel
theorem dL_law_449 : decode cL_law 449 = .ok (.invokevirtual 45, 3) := by decide +kernel
theorem dL_law_452 : decode cL_law 452 = .ok (.aload_n 2, 1) := by decide +kernel
theorem dL_law_453 : decode cL_law 453 = .ok (.aload_n 0, 1) := by decide +kernel
theorem dL_law_454 : decode cL_law 454 = .ok (.iload_n 3, 1) := by decide +kernel
theorem dL_law_455 : decode cL_law 455 = .ok (.iconst 1, 1) := by decide +kernel
theorem dL_law_456 : decode cL_law 456 = .ok (.iadd, 1) := by decide +kernel
theorem dL_law_457 : decode cL_law 457 = .ok (.iaload, 1) := by decide +kernel
theorem dL_law_458 : decode cL_law 458 = .ok (.aload_n 0, 1) := by decide +kernel
theorem dL_law_459 : decode cL_law 459 = .ok (.iload_n 3, 1) := by decide +kernel
theorem dL_law_460 : decode cL_law 460 = .ok (.iconst 2, 1) := by decide +kernel
theorem dL_law_461 : decode cL_law 461 = .ok (.iadd, 1) := by decide +kernel
theorem dL_law_462 : decode cL_law 462 = .ok (.iaload, 1) := by decide +kernel
theorem dL_law_463 : decode cL_law 463 = .ok (.aload_n 0, 1) := by decide +kernel
theorem dL_law_464 : decode cL_law 464 = .ok (.iload_n 3, 1) := by decide +kernel
theorem dL_law_465 : decode cL_law 465 = .ok (.iconst 3, 1) := by decide +kernel
theorem dL_law_466 : decode cL_law 466 = .ok (.iadd, 1) := by decide +kernel
theorem dL_law_467 : decode cL_law 467 = .ok (.iaload, 1) := by decide +kernel
theorem dL_law_468 : decode cL_law 468 = .ok (.invokevirtual 48, 3) := by decide +kernel
theorem dL_law_471 : decode cL_law 471 = .ok (.if_icmp .eq 909, 3) := by decide +kernel
theorem dL_law_474 : decode cL_law 474 = .ok (.iconst 0, 1) := by decide +kernel
theorem dL_law_475 : decode cL_law 475 = .ok (.ireturn, 1) := by decide +kernel
theorem dL_law_476 : decode cL_law 476 = .ok (.aload_n 1, 1) := by decide +kernel
theorem dL_law_477 : decode cL_law 477 = .ok (.aload_n 0, 1) := by decide +kernel
theorem dL_law_478 : decode cL_law 478 = .ok (.iload_n 3, 1) := by decide +kernel
theorem dL_law_479 : decode cL_law 479 = .ok (.iconst 1, 1) := by decide +kernel
theorem dL_law_480 : decode cL_law 480 = .ok (.iadd, 1) := by decide +kernel
theorem dL_law_481 : decode cL_law 481 = .ok (.iaload, 1) := by decide +kernel
theorem dL_law_482 : decode cL_law 482 = .ok (.aload_n 0, 1) := by decide +kernel
theorem dL_law_483 : decode cL_law 483 = .ok (.iload_n 3, 1) := by decide +kernel
theorem dL_law_484 : decode cL_law 484 = .ok (.iconst 2, 1) := by decide +kernel
theorem dL_law_485 : decode cL_law 485 = .ok (.iadd, 1) := by decide +kernel
theorem dL_law_486 : decode cL_law 486 = .ok (.iaload, 1) := by decide +kernel
theorem dL_law_487 : decode cL_law 487 = .ok (.aload_n 0, 1) := by decide +kernel
theorem dL_law_488 : decode cL_law 488 = .ok (.iload_n 3, 1) := by decide +kernel
theorem dL_law_489 : decode cL_law 489 = .ok (.iconst 3, 1) := by decide +kernel
theorem dL_law_490 : decode cL_law 490 = .ok (.iadd, 1) := by decide +kernel
theorem dL_law_491 : decode cL_law 491 = .ok (.iaload, 1) := by decide +kernel
theorem dL_law_492 : decode cL_law 492 = .ok (.invokevirtual 49, 3) := by decide +kernel
theorem dL_law_495 : decode cL_law 495 = .ok (.aload_n 2, 1) := by decide +kernel
theorem dL_law_496 : decode cL_law 496 = .ok (.aload_n 0, 1) := by decide +kernel
theorem dL_law_497 : decode cL_law 497 = .ok (.iload_n 3, 1) := by decide +kernel
theorem dL_law_498 : decode cL_law 498 = .ok (.iconst 1, 1) := by decide +kernel
theorem dL_law_499 : decode cL_law 499 = .ok (.iadd, 1) := by decide +kernel
theorem dL_law_500 : decode cL_law 500 = .ok (.iaload, 1) := by decide +kernel
theorem dL_law_501 : decode cL_law 501 = .ok (.aload_n 0, 1) := by decide +kernel
theorem dL_law_502 : decode cL_law 502 = .ok (.iload_n 3, 1) := by decide +kernel
theorem dL_law_503 : decode cL_law 503 = .ok (.iconst 2, 1) := by decide +kernel
theorem dL_law_504 : decode cL_law 504 = .ok (.iadd, 1) := by decide +kernel
theorem dL_law_505 : decode cL_law 505 = .ok (.iaload, 1) := by decide +kernel
theorem dL_law_506 : decode cL_law 506 = .ok (.aload_n 0, 1) := by decide +kernel
theorem dL_law_507 : decode cL_law 507 = .ok (.iload_n 3, 1) := by decide +kernel
theorem dL_law_508 : decode cL_law 508 = .ok (.iconst 3, 1) := by decide +kernel
theorem dL_law_509 : decode cL_law 509 = .ok (.iadd, 1) := by decide +kernel
theorem dL_law_510 : decode cL_law 510 = .ok (.iaload, 1) := by decide +kernel
theorem dL_law_511 : decode cL_law 511 = .ok (.invokevirtual 52, 3) := by decide +kernel
theorem dL_law_514 : decode cL_law 514 = .ok (.if_icmp .eq 866, 3) := by decide +kernel
theorem dL_law_517 : decode cL_law 517 = .ok (.iconst 0, 1) := by decide +kernel
theorem dL_law_518 : decode cL_law 518 = .ok (.ireturn, 1) := by decide +kernel
theorem dL_law_519 : decode cL_law 519 = .ok (.aload_n 1, 1) := by decide +kernel
theorem dL_law_520 : decode cL_law 520 = .ok (.aload_n 0, 1) := by decide +kernel
theorem dL_law_521 : decode cL_law 521 = .ok (.iload_n 3, 1) := by decide +kernel
theorem dL_law_522 : decode cL_law 522 = .ok (.iconst 1, 1) := by decide +kernel
theorem dL_law_523 : decode cL_law 523 = .ok (.iadd, 1) := by decide +kernel
theorem dL_law_524 : decode cL_law 524 = .ok (.iaload, 1) := by decide +kernel
theorem dL_law_525 : decode cL_law 525 = .ok (.invokevirtual 53, 3) := by decide +kernel
theorem dL_law_528 : decode cL_law 528 = .ok (.aload_n 2, 1) := by decide +kernel
theorem dL_law_529 : decode cL_law 529 = .ok (.aload_n 0, 1) := by decide +kernel
theorem dL_law_530 : decode cL_law 530 = .ok (.iload_n 3, 1) := by decide +kernel
theorem dL_law_531 : decode cL_law 531 = .ok (.iconst 1, 1) := by decide +kernel
theorem dL_law_532 : decode cL_law 532 = .ok (.iadd, 1) := by decide +kernel
theorem dL_law_533 : decode cL_law 533 = .ok (.iaload, 1) := by decide +kernel
theorem dL_law_534 : decode cL_law 534 = .ok (.invokevirtual 56, 3) := by decide +kernel
theorem dL_law_537 : decode cL_law 537 = .ok (.if_icmp .eq 843, 3) := by decide +kernel
theorem dL_law_540 : decode cL_law 540 = .ok (.iconst 0, 1) := by decide +kernel
theorem dL_law_541 : decode cL_law 541 = .ok (.ireturn, 1) := by decide +kernel
theorem dL_law_542 : decode cL_law 542 = .ok (.aload_n 1, 1) := by decide +kernel
theorem dL_law_543 : decode cL_law 543 = .ok (.invokevirtual 57, 3) := by decide +kernel
theorem dL_law_546 : decode cL_law 546 = .ok (.aload_n 2, 1) := by decide +kernel
theorem dL_law_547 : decode cL_law 547 = .ok (.invokevirtual 61, 3) := by decide +kernel
theorem dL_law_550 : decode cL_law 550 = .ok (.if_icmp .eq 830, 3) := by decide +kernel
theorem dL_law_553 : decode cL_law 553 = .ok (.iconst 0, 1) := by decide +kernel
theorem dL_law_554 : decode cL_law 554 = .ok (.ireturn, 1) := by decide +kernel
theorem dL_law_555 : decode cL_law 555 = .ok (.aload_n 1, 1) := by decide +kernel
theorem dL_law_556 : decode cL_law 556 = .ok (.aload_n 0, 1) := by decide +kernel
theorem dL_law_557 : decode cL_law 557 = .ok (.iload_n 3, 1) := by decide +kernel
theorem dL_law_558 : decode cL_law 558 = .ok (.iconst 1, 1) := by decide +kernel
theorem dL_law_559 : decode cL_law 559 = .ok (.iadd, 1) := by decide +kernel
theorem dL_law_560 : decode cL_law 560 = .ok (.iaload, 1) := by decide +kernel
theorem dL_law_561 : decode cL_law 561 = .ok (.aload_n 0, 1) := by decide +kernel
theorem dL_law_562 : decode cL_law 562 = .ok (.iload_n 3, 1) := by decide +kernel
theorem dL_law_563 : decode cL_law 563 = .ok (.iconst 2, 1) := by decide +kernel
theorem dL_law_564 : decode cL_law 564 = .ok (.iadd, 1) := by decide +kernel
theorem dL_law_565 : decode cL_law 565 = .ok (.iaload, 1) := by decide +kernel
theorem dL_law_566 : decode cL_law 566 = .ok (.invokevirtual 62, 3) := by decide +kernel
theorem dL_law_569 : decode cL_law 569 = .ok (.aload_n 2, 1) := by decide +kernel
theorem dL_law_570 : decode cL_law 570 = .ok (.aload_n 0, 1) := by decide +kernel
theorem dL_law_571 : decode cL_law 571 = .ok (.iload_n 3, 1) := by decide +kernel
theorem dL_law_572 : decode cL_law 572 = .ok (.iconst 1, 1) := by decide +kernel
theorem dL_law_573 : decode cL_law 573 = .ok (.iadd, 1) := by decide +kernel
theorem dL_law_574 : decode cL_law 574 = .ok (.iaload, 1) := by decide +kernel
theorem dL_law_575 : decode cL_law 575 = .ok (.aload_n 0, 1) := by decide +kernel
theorem dL_law_576 : decode cL_law 576 = .ok (.iload_n 3, 1) := by decide +kernel
theorem dL_law_577 : decode cL_law 577 = .ok (.iconst 2, 1) := by decide +kernel
theorem dL_law_578 : decode cL_law 578 = .ok (.iadd, 1) := by decide +kernel
theorem dL_law_579 : decode cL_law 579 = .ok (.iaload, 1) := by decide +kernel
theorem dL_law_580 : decode cL_law 580 = .ok (.invokevirtual 65, 3) := by decide +kernel
theorem dL_law_583 : decode cL_law 583 = .ok (.if_icmp .eq 797, 3) := by decide +kernel
theorem dL_law_586 : decode cL_law 586 = .ok (.iconst 0, 1) := by decide +kernel
theorem dL_law_587 : decode cL_law 587 = .ok (.ireturn, 1) := by decide +kernel
theorem dL_law_588 : decode cL_law 588 = .ok (.aload_n 1, 1) := by decide +kernel
theorem dL_law_589 : decode cL_law 589 = .ok (.aload_n 0, 1) := by decide +kernel
theorem dL_law_590 : decode cL_law 590 = .ok (.iload_n 3, 1) := by decide +kernel
theorem dL_law_591 : decode cL_law 591 = .ok (.iconst 1, 1) := by decide +kernel
theorem dL_law_592 : decode cL_law 592 = .ok (.iadd, 1) := by decide +kernel
theorem dL_law_593 : decode cL_law 593 = .ok (.iaload, 1) := by decide +kernel
theorem dL_law_594 : decode cL_law 594 = .ok (.aload_n 0, 1) := by decide +kernel
theorem dL_law_595 : decode cL_law 595 = .ok (.iload_n 3, 1) := by decide +kernel
theorem dL_law_596 : decode cL_law 596 = .ok (.iconst 2, 1) := by decide +kernel
theorem dL_law_597 : decode cL_law 597 = .ok (.iadd, 1) := by decide +kernel
theorem dL_law_598 : decode cL_law 598 = .ok (.iaload, 1) := by decide +kernel
theorem dL_law_599 : decode cL_law 599 = .ok (.invokevirtual 66, 3) := by decide +kernel
theorem dL_law_602 : decode cL_law 602 = .ok (.aload_n 2, 1) := by decide +kernel
theorem dL_law_603 : decode cL_law 603 = .ok (.aload_n 0, 1) := by decide +kernel
theorem dL_law_604 : decode cL_law 604 = .ok (.iload_n 3, 1) := by decide +kernel
theorem dL_law_605 : decode cL_law 605 = .ok (.iconst 1, 1) := by decide +kernel
theorem dL_law_606 : decode cL_law 606 = .ok (.iadd, 1) := by decide +kernel
theorem dL_law_607 : decode cL_law 607 = .ok (.iaload, 1) := by decide +kernel
theorem dL_law_608 : decode cL_law 608 = .ok (.aload_n 0, 1) := by decide +kernel
theorem dL_law_609 : decode cL_law 609 = .ok (.iload_n 3, 1) := by decide +kernel
theorem dL_law_610 : decode cL_law 610 = .ok (.iconst 2, 1) := by decide +kernel
theorem dL_law_611 : decode cL_law 611 = .ok (.iadd, 1) := by decide +kernel
theorem dL_law_612 : decode cL_law 612 = .ok (.iaload, 1) := by decide +kernel
theorem dL_law_613 : decode cL_law 613 = .ok (.invokevirtual 69, 3) := by decide +kernel
theorem dL_law_616 : decode cL_law 616 = .ok (.if_icmp .eq 764, 3) := by decide +kernel
theorem dL_law_619 : decode cL_law 619 = .ok (.iconst 0, 1) := by decide +kernel
theorem dL_law_620 : decode cL_law 620 = .ok (.ireturn, 1) := by decide +kernel
theorem dL_law_621 : decode cL_law 621 = .ok (.aload_n 1, 1) := by decide +kernel
theorem dL_law_622 : decode cL_law 622 = .ok (.aload_n 0, 1) := by decide +kernel
theorem dL_law_623 : decode cL_law 623 = .ok (.iload_n 3, 1) := by decide +kernel
theorem dL_law_624 : decode cL_law 624 = .ok (.iconst 1, 1) := by decide +kernel
theorem dL_law_625 : decode cL_law 625 = .ok (.iadd, 1) := by decide +kernel
theorem dL_law_626 : decode cL_law 626 = .ok (.iaload, 1) := by decide +kernel
theorem dL_law_627 : decode cL_law 627 = .ok (.invokevirtual 70, 3) := by decide +kernel
theorem dL_law_630 : decode cL_law 630 = .ok (.aload_n 2, 1) := by decide +kernel
theorem dL_law_631 : decode cL_law 631 = .ok (.aload_n 0, 1) := by decide +kernel
theorem dL_law_632 : decode cL_law 632 = .ok (.iload_n 3, 1) := by decide +kernel
theorem dL_law_633 : decode cL_law 633 = .ok (.iconst 1, 1) := by decide +kernel
theorem dL_law_634 : decode cL_law 634 = .ok (.iadd, 1) := by decide +kernel
theorem dL_law_635 : decode cL_law 635 = .ok (.iaload, 1) := by decide +kernel
theorem dL_law_636 : decode cL_law 636 = .ok (.invokevirtual 73, 3) := by decide +kernel
theorem dL_law_639 : decode cL_law 639 = .ok (.if_icmp .eq 741, 3) := by decide +kernel
theorem dL_law_642 : decode cL_law 642 = .ok (.iconst 0, 1) := by decide +kernel
theorem dL_law_643 : decode cL_law 643 = .ok (.ireturn, 1) := by decide +kernel
theorem dL_law_644 : decode cL_law 644 = .ok (.aload_n 1, 1) := by decide +kernel
theorem dL_law_645 : decode cL_law 645 = .ok (.aload_n 0, 1) := by decide +kernel
theorem dL_law_646 : decode cL_law 646 = .ok (.iload_n 3, 1) := by decide +kernel
theorem dL_law_647 : decode cL_law 647 = .ok (.iconst 1, 1) := by decide +kernel
theorem dL_law_648 : decode cL_law 648 = .ok (.iadd, 1) := by decide +kernel
theorem dL_law_649 : decode cL_law 649 = .ok (.iaload, 1) := by decide +kernel
theorem dL_law_650 : decode cL_law 650 = .ok (.invokevirtual 74, 3) := by decide +kernel
theorem dL_law_653 : decode cL_law 653 = .ok (.aload_n 2, 1) := by decide +kernel
theorem dL_law_654 : decode cL_law 654 = .ok (.aload_n 0, 1) := by decide +kernel
theorem dL_law_655 : decode cL_law 655 = .ok (.iload_n 3, 1) := by decide +kernel
theorem dL_law_656 : decode cL_law 656 = .ok (.iconst 1, 1) := by decide +kernel
theorem dL_law_657 : decode cL_law 657 = .ok (.iadd, 1) := by decide +kernel
theorem dL_law_658 : decode cL_law 658 = .ok (.iaload, 1) := by decide +kernel
theorem dL_law_659 : decode cL_law 659 = .ok (.invokevirtual 77, 3) := by decide +kernel
theorem dL_law_662 : decode cL_law 662 = .ok (.if_icmp .eq 718, 3) := by decide +kernel
theorem dL_law_665 : decode cL_law 665 = .ok (.iconst 0, 1) := by decide +kernel
theorem dL_law_666 : decode cL_law 666 = .ok (.ireturn, 1) := by decide +kernel
theorem dL_law_667 : decode cL_law 667 = .ok (.aload_n 1, 1) := by decide +kernel
theorem dL_law_668 : decode cL_law 668 = .ok (.aload_n 0, 1) := by decide +kernel
theorem dL_law_669 : decode cL_law 669 = .ok (.iload_n 3, 1) := by decide +kernel
theorem dL_law_670 : decode cL_law 670 = .ok (.iconst 1, 1) := by decide +kernel
theorem dL_law_671 : decode cL_law 671 = .ok (.iadd, 1) := by decide +kernel
theorem dL_law_672 : decode cL_law 672 = .ok (.iaload, 1) := by decide +kernel
theorem dL_law_673 : decode cL_law 673 = .ok (.aload_n 0, 1) := by decide +kernel
theorem dL_law_674 : decode cL_law 674 = .ok (.iload_n 3, 1) := by decide +kernel
theorem dL_law_675 : decode cL_law 675 = .ok (.iconst 2, 1) := by decide +kernel
theorem dL_law_676 : decode cL_law 676 = .ok (.iadd, 1) := by decide +kernel
theorem dL_law_677 : decode cL_law 677 = .ok (.iaload, 1) := by decide +kernel
theorem dL_law_678 : decode cL_law 678 = .ok (.invokevirtual 78, 3) := by decide +kernel
theorem dL_law_681 : decode cL_law 681 = .ok (.aload_n 2, 1) := by decide +kernel
theorem dL_law_682 : decode cL_law 682 = .ok (.aload_n 0, 1) := by decide +kernel
theorem dL_law_683 : decode cL_law 683 = .ok (.iload_n 3, 1) := by decide +kernel
theorem dL_law_684 : decode cL_law 684 = .ok (.iconst 1, 1) := by decide +kernel
theorem dL_law_685 : decode cL_law 685 = .ok (.iadd, 1) := by decide +kernel
theorem dL_law_686 : decode cL_law 686 = .ok (.iaload, 1) := by decide +kernel
theorem dL_law_687 : decode cL_law 687 = .ok (.aload_n 0, 1) := by decide +kernel
theorem dL_law_688 : decode cL_law 688 = .ok (.iload_n 3, 1) := by decide +kernel
theorem dL_law_689 : decode cL_law 689 = .ok (.iconst 2, 1) := by decide +kernel
theorem dL_law_690 : decode cL_law 690 = .ok (.iadd, 1) := by decide +kernel
theorem dL_law_691 : decode cL_law 691 = .ok (.iaload, 1) := by decide +kernel
theorem dL_law_692 : decode cL_law 692 = .ok (.invokevirtual 81, 3) := by decide +kernel
theorem dL_law_695 : decode cL_law 695 = .ok (.if_icmp .eq 685, 3) := by decide +kernel
theorem dL_law_698 : decode cL_law 698 = .ok (.iconst 0, 1) := by decide +kernel
theorem dL_law_699 : decode cL_law 699 = .ok (.ireturn, 1) := by decide +kernel
theorem dL_law_700 : decode cL_law 700 = .ok (.aload_n 1, 1) := by decide +kernel
theorem dL_law_701 : decode cL_law 701 = .ok (.aload_n 0, 1) := by decide +kernel
theorem dL_law_702 : decode cL_law 702 = .ok (.iload_n 3, 1) := by decide +kernel
theorem dL_law_703 : decode cL_law 703 = .ok (.iconst 1, 1) := by decide +kernel
theorem dL_law_704 : decode cL_law 704 = .ok (.iadd, 1) := by decide +kernel
theorem dL_law_705 : decode cL_law 705 = .ok (.iaload, 1) := by decide +kernel
theorem dL_law_706 : decode cL_law 706 = .ok (.invokevirtual 82, 3) := by decide +kernel
theorem dL_law_709 : decode cL_law 709 = .ok (.aload_n 2, 1) := by decide +kernel
theorem dL_law_710 : decode cL_law 710 = .ok (.aload_n 0, 1) := by decide +kernel
theorem dL_law_711 : decode cL_law 711 = .ok (.iload_n 3, 1) := by decide +kernel
theorem dL_law_712 : decode cL_law 712 = .ok (.iconst 1, 1) := by decide +kernel
theorem dL_law_713 : decode cL_law 713 = .ok (.iadd, 1) := by decide +kernel
theorem dL_law_714 : decode cL_law 714 = .ok (.iaload, 1) := by decide +kernel
theorem dL_law_715 : decode cL_law 715 = .ok (.invokevirtual 85, 3) := by decide +kernel
theorem dL_law_718 : decode cL_law 718 = .ok (.if_icmp .eq 662, 3) := by decide +kernel
theorem dL_law_721 : decode cL_law 721 = .ok (.iconst 0, 1) := by decide +kernel
theorem dL_law_722 : decode cL_law 722 = .ok (.ireturn, 1) := by decide +kernel
theorem dL_law_723 : decode cL_law 723 = .ok (.aload_n 1, 1) := by decide +kernel
theorem dL_law_724 : decode cL_law 724 = .ok (.aload_n 0, 1) := by decide +kernel
theorem dL_law_725 : decode cL_law 725 = .ok (.iload_n 3, 1) := by decide +kernel
theorem dL_law_726 : decode cL_law 726 = .ok (.iconst 1, 1) := by decide +kernel
theorem dL_law_727 : decode cL_law 727 = .ok (.iadd, 1) := by decide +kernel
theorem dL_law_728 : decode cL_law 728 = .ok (.iaload, 1) := by decide +kernel
theorem dL_law_729 : decode cL_law 729 = .ok (.invokevirtual 86, 3) := by decide +kernel
theorem dL_law_732 : decode cL_law 732 = .ok (.aload_n 2, 1) := by decide +kernel
theorem dL_law_733 : decode cL_law 733 = .ok (.aload_n 0, 1) := by decide +kernel
theorem dL_law_734 : decode cL_law 734 = .ok (.iload_n 3, 1) := by decide +kernel
theorem dL_law_735 : decode cL_law 735 = .ok (.iconst 1, 1) := by decide +kernel
theorem dL_law_736 : decode cL_law 736 = .ok (.iadd, 1) := by decide +kernel
theorem dL_law_737 : decode cL_law 737 = .ok (.iaload, 1) := by decide +kernel
theorem dL_law_738 : decode cL_law 738 = .ok (.invokevirtual 89, 3) := by decide +kernel
theorem dL_law_741 : decode cL_law 741 = .ok (.if_icmp .eq 639, 3) := by decide +kernel
theorem dL_law_744 : decode cL_law 744 = .ok (.iconst 0, 1) := by decide +kernel
theorem dL_law_745 : decode cL_law 745 = .ok (.ireturn, 1) := by decide +kernel
theorem dL_law_746 : decode cL_law 746 = .ok (.aload_n 1, 1) := by decide +kernel
theorem dL_law_747 : decode cL_law 747 = .ok (.aload_n 0, 1) := by decide +kernel
theorem dL_law_748 : decode cL_law 748 = .ok (.iload_n 3, 1) := by decide +kernel
theorem dL_law_749 : decode cL_law 749 = .ok (.iconst 1, 1) := by decide +kernel
theorem dL_law_750 : decode cL_law 750 = .ok (.iadd, 1) := by decide +kernel
theorem dL_law_751 : decode cL_law 751 = .ok (.iaload, 1) := by decide +kernel
theorem dL_law_752 : decode cL_law 752 = .ok (.invokevirtual 90, 3) := by decide +kernel
theorem dL_law_755 : decode cL_law 755 = .ok (.aload_n 2, 1) := by decide +kernel
theorem dL_law_756 : decode cL_law 756 = .ok (.aload_n 0, 1) := by decide +kernel
theorem dL_law_757 : decode cL_law 757 = .ok (.iload_n 3, 1) := by decide +kernel
theorem dL_law_758 : decode cL_law 758 = .ok (.iconst 1, 1) := by decide +kernel
theorem dL_law_759 : decode cL_law 759 = .ok (.iadd, 1) := by decide +kernel
theorem dL_law_760 : decode cL_law 760 = .ok (.iaload, 1) := by decide +kernel
theorem dL_law_761 : decode cL_law 761 = .ok (.invokevirtual 93, 3) := by decide +kernel
theorem dL_law_764 : decode cL_law 764 = .ok (.if_icmp .eq 616, 3) := by decide +kernel
theorem dL_law_767 : decode cL_law 767 = .ok (.iconst 0, 1) := by decide +kernel
theorem dL_law_768 : decode cL_law 768 = .ok (.ireturn, 1) := by decide +kernel
theorem dL_law_769 : decode cL_law 769 = .ok (.aload_n 1, 1) := by decide +kernel
theorem dL_law_770 : decode cL_law 770 = .ok (.aload_n 0, 1) := by decide +kernel
theorem dL_law_771 : decode cL_law 771 = .ok (.iload_n 3, 1) := by decide +kernel
theorem dL_law_772 : decode cL_law 772 = .ok (.iconst 1, 1) := by decide +kernel
theorem dL_law_773 : decode cL_law 773 = .ok (.iadd, 1) := by decide +kernel
theorem dL_law_774 : decode cL_law 774 = .ok (.iaload, 1) := by decide +kernel
theorem dL_law_775 : decode cL_law 775 = .ok (.invokevirtual 94, 3) := by decide +kernel
theorem dL_law_778 : decode cL_law 778 = .ok (.aload_n 2, 1) := by decide +kernel
theorem dL_law_779 : decode cL_law 779 = .ok (.aload_n 0, 1) := by decide +kernel
theorem dL_law_780 : decode cL_law 780 = .ok (.iload_n 3, 1) := by decide +kernel
theorem dL_law_781 : decode cL_law 781 = .ok (.iconst 1, 1) := by decide +kernel
theorem dL_law_782 : decode cL_law 782 = .ok (.iadd, 1) := by decide +kernel
theorem dL_law_783 : decode cL_law 783 = .ok (.iaload, 1) := by decide +kernel
theorem dL_law_784 : decode cL_law 784 = .ok (.invokevirtual 98, 3) := by decide +kernel
theorem dL_law_787 : decode cL_law 787 = .ok (.lcmp, 1) := by decide +kernel
theorem dL_law_788 : decode cL_law 788 = .ok (.ifCond .eq 592, 3) := by decide +kernel
theorem dL_law_791 : decode cL_law 791 = .ok (.iconst 0, 1) := by decide +kernel
theorem dL_law_792 : decode cL_law 792 = .ok (.ireturn, 1) := by decide +kernel
theorem dL_law_793 : decode cL_law 793 = .ok (.aload_n 1, 1) := by decide +kernel
theorem dL_law_794 : decode cL_law 794 = .ok (.aload_n 0, 1) := by decide +kernel
theorem dL_law_795 : decode cL_law 795 = .ok (.iload_n 3, 1) := by decide +kernel
theorem dL_law_796 : decode cL_law 796 = .ok (.iconst 1, 1) := by decide +kernel
theorem dL_law_797 : decode cL_law 797 = .ok (.iadd, 1) := by decide +kernel
theorem dL_law_798 : decode cL_law 798 = .ok (.iaload, 1) := by decide +kernel
theorem dL_law_799 : decode cL_law 799 = .ok (.aload_n 0, 1) := by decide +kernel
theorem dL_law_800 : decode cL_law 800 = .ok (.iload_n 3, 1) := by decide +kernel
theorem dL_law_801 : decode cL_law 801 = .ok (.iconst 2, 1) := by decide +kernel
theorem dL_law_802 : decode cL_law 802 = .ok (.iadd, 1) := by decide +kernel
theorem dL_law_803 : decode cL_law 803 = .ok (.iaload, 1) := by decide +kernel
theorem dL_law_804 : decode cL_law 804 = .ok (.ifCond .eq 7, 3) := by decide +kernel
theorem dL_law_807 : decode cL_law 807 = .ok (.iconst 1, 1) := by decide +kernel
theorem dL_law_808 : decode cL_law 808 = .ok (.goto 4, 3) := by decide +kernel
theorem dL_law_811 : decode cL_law 811 = .ok (.iconst 0, 1) := by decide +kernel
theorem dL_law_812 : decode cL_law 812 = .ok (.aload_n 0, 1) := by decide +kernel
theorem dL_law_813 : decode cL_law 813 = .ok (.iload_n 3, 1) := by decide +kernel
theorem dL_law_814 : decode cL_law 814 = .ok (.iconst 3, 1) := by decide +kernel
theorem dL_law_815 : decode cL_law 815 = .ok (.iadd, 1) := by decide +kernel
theorem dL_law_816 : decode cL_law 816 = .ok (.iaload, 1) := by decide +kernel
theorem dL_law_817 : decode cL_law 817 = .ok (.invokevirtual 99, 3) := by decide +kernel
theorem dL_law_820 : decode cL_law 820 = .ok (.aload_n 2, 1) := by decide +kernel
theorem dL_law_821 : decode cL_law 821 = .ok (.aload_n 0, 1) := by decide +kernel
theorem dL_law_822 : decode cL_law 822 = .ok (.iload_n 3, 1) := by decide +kernel
theorem dL_law_823 : decode cL_law 823 = .ok (.iconst 1, 1) := by decide +kernel
theorem dL_law_824 : decode cL_law 824 = .ok (.iadd, 1) := by decide +kernel
theorem dL_law_825 : decode cL_law 825 = .ok (.iaload, 1) := by decide +kernel
theorem dL_law_826 : decode cL_law 826 = .ok (.aload_n 0, 1) := by decide +kernel
theorem dL_law_827 : decode cL_law 827 = .ok (.iload_n 3, 1) := by decide +kernel
theorem dL_law_828 : decode cL_law 828 = .ok (.iconst 2, 1) := by decide +kernel
theorem dL_law_829 : decode cL_law 829 = .ok (.iadd, 1) := by decide +kernel
theorem dL_law_830 : decode cL_law 830 = .ok (.iaload, 1) := by decide +kernel
theorem dL_law_831 : decode cL_law 831 = .ok (.ifCond .eq 7, 3) := by decide +kernel
theorem dL_law_834 : decode cL_law 834 = .ok (.iconst 1, 1) := by decide +kernel
theorem dL_law_835 : decode cL_law 835 = .ok (.goto 4, 3) := by decide +kernel
theorem dL_law_838 : decode cL_law 838 = .ok (.iconst 0, 1) := by decide +kernel
theorem dL_law_839 : decode cL_law 839 = .ok (.aload_n 0, 1) := by decide +kernel
theorem dL_law_840 : decode cL_law 840 = .ok (.iload_n 3, 1) := by decide +kernel
theorem dL_law_841 : decode cL_law 841 = .ok (.iconst 3, 1) := by decide +kernel
theorem dL_law_842 : decode cL_law 842 = .ok (.iadd, 1) := by decide +kernel
theorem dL_law_843 : decode cL_law 843 = .ok (.iaload, 1) := by decide +kernel
theorem dL_law_844 : decode cL_law 844 = .ok (.invokevirtual 103, 3) := by decide +kernel
theorem dL_law_847 : decode cL_law 847 = .ok (.lcmp, 1) := by decide +kernel
theorem dL_law_848 : decode cL_law 848 = .ok (.ifCond .eq 532, 3) := by decide +kernel
theorem dL_law_851 : decode cL_law 851 = .ok (.iconst 0, 1) := by decide +kernel
theorem dL_law_852 : decode cL_law 852 = .ok (.ireturn, 1) := by decide +kernel
theorem dL_law_853 : decode cL_law 853 = .ok (.aload_n 1, 1) := by decide +kernel
theorem dL_law_854 : decode cL_law 854 = .ok (.aload_n 0, 1) := by decide +kernel
theorem dL_law_855 : decode cL_law 855 = .ok (.iload_n 3, 1) := by decide +kernel
theorem dL_law_856 : decode cL_law 856 = .ok (.iconst 1, 1) := by decide +kernel
theorem dL_law_857 : decode cL_law 857 = .ok (.iadd, 1) := by decide +kernel
theorem dL_law_858 : decode cL_law 858 = .ok (.iaload, 1) := by decide +kernel
theorem dL_law_859 : decode cL_law 859 = .ok (.aload_n 0, 1) := by decide +kernel
theorem dL_law_860 : decode cL_law 860 = .ok (.iload_n 3, 1) := by decide +kernel
theorem dL_law_861 : decode cL_law 861 = .ok (.iconst 2, 1) := by decide +kernel
theorem dL_law_862 : decode cL_law 862 = .ok (.iadd, 1) := by decide +kernel
theorem dL_law_863 : decode cL_law 863 = .ok (.iaload, 1) := by decide +kernel
theorem dL_law_864 : decode cL_law 864 = .ok (.invokevirtual 104, 3) := by decide +kernel
theorem dL_law_867 : decode cL_law 867 = .ok (.aload_n 2, 1) := by decide +kernel
theorem dL_law_868 : decode cL_law 868 = .ok (.aload_n 0, 1) := by decide +kernel
theorem dL_law_869 : decode cL_law 869 = .ok (.iload_n 3, 1) := by decide +kernel
theorem dL_law_870 : decode cL_law 870 = .ok (.iconst 1, 1) := by decide +kernel
theorem dL_law_871 : decode cL_law 871 = .ok (.iadd, 1) := by decide +kernel
theorem dL_law_872 : decode cL_law 872 = .ok (.iaload, 1) := by decide +kernel
theorem dL_law_873 : decode cL_law 873 = .ok (.aload_n 0, 1) := by decide +kernel
theorem dL_law_874 : decode cL_law 874 = .ok (.iload_n 3, 1) := by decide +kernel
theorem dL_law_875 : decode cL_law 875 = .ok (.iconst 2, 1) := by decide +kernel
theorem dL_law_876 : decode cL_law 876 = .ok (.iadd, 1) := by decide +kernel
theorem dL_law_877 : decode cL_law 877 = .ok (.iaload, 1) := by decide +kernel
theorem dL_law_878 : decode cL_law 878 = .ok (.invokevirtual 108, 3) := by decide +kernel
theorem dL_law_881 : decode cL_law 881 = .ok (.lcmp, 1) := by decide +kernel
theorem dL_law_882 : decode cL_law 882 = .ok (.ifCond .eq 498, 3) := by decide +kernel
theorem dL_law_885 : decode cL_law 885 = .ok (.iconst 0, 1) := by decide +kernel
theorem dL_law_886 : decode cL_law 886 = .ok (.ireturn, 1) := by decide +kernel
theorem dL_law_887 : decode cL_law 887 = .ok (.aload_n 1, 1) := by decide +kernel
theorem dL_law_888 : decode cL_law 888 = .ok (.aload_n 0, 1) := by decide +kernel
theorem dL_law_889 : decode cL_law 889 = .ok (.iload_n 3, 1) := by decide +kernel
theorem dL_law_890 : decode cL_law 890 = .ok (.iconst 1, 1) := by decide +kernel
theorem dL_law_891 : decode cL_law 891 = .ok (.iadd, 1) := by decide +kernel
theorem dL_law_892 : decode cL_law 892 = .ok (.iaload, 1) := by decide +kernel
theorem dL_law_893 : decode cL_law 893 = .ok (.aload_n 0, 1) := by decide +kernel
theorem dL_law_894 : decode cL_law 894 = .ok (.iload_n 3, 1) := by decide +kernel
theorem dL_law_895 : decode cL_law 895 = .ok (.iconst 2, 1) := by decide +kernel
theorem dL_law_896 : decode cL_law 896 = .ok (.iadd, 1) := by decide +kernel
theorem dL_law_897 : decode cL_law 897 = .ok (.iaload, 1) := by decide +kernel
theorem dL_law_898 : decode cL_law 898 = .ok (.ifCond .eq 7, 3) := by decide +kernel
theorem dL_law_901 : decode cL_law 901 = .ok (.iconst 1, 1) := by decide +kernel
theorem dL_law_902 : decode cL_law 902 = .ok (.goto 4, 3) := by decide +kernel
theorem dL_law_905 : decode cL_law 905 = .ok (.iconst 0, 1) := by decide +kernel
theorem dL_law_906 : decode cL_law 906 = .ok (.invokevirtual 109, 3) := by decide +kernel
theorem dL_law_909 : decode cL_law 909 = .ok (.aload_n 2, 1) := by decide +kernel
theorem dL_law_910 : decode cL_law 910 = .ok (.aload_n 0, 1) := by decide +kernel
theorem dL_law_911 : decode cL_law 911 = .ok (.iload_n 3, 1) := by decide +kernel
theorem dL_law_912 : decode cL_law 912 = .ok (.iconst 1, 1) := by decide +kernel
theorem dL_law_913 : decode cL_law 913 = .ok (.iadd, 1) := by decide +kernel
theorem dL_law_914 : decode cL_law 914 = .ok (.iaload, 1) := by decide +kernel
theorem dL_law_915 : decode cL_law 915 = .ok (.aload_n 0, 1) := by decide +kernel
theorem dL_law_916 : decode cL_law 916 = .ok (.iload_n 3, 1) := by decide +kernel
theorem dL_law_917 : decode cL_law 917 = .ok (.iconst 2, 1) := by decide +kernel
theorem dL_law_918 : decode cL_law 918 = .ok (.iadd, 1) := by decide +kernel
theorem dL_law_919 : decode cL_law 919 = .ok (.iaload, 1) := by decide +kernel
theorem dL_law_920 : decode cL_law 920 = .ok (.ifCond .eq 7, 3) := by decide +kernel
theorem dL_law_923 : decode cL_law 923 = .ok (.iconst 1, 1) := by decide +kernel
theorem dL_law_924 : decode cL_law 924 = .ok (.goto 4, 3) := by decide +kernel
theorem dL_law_927 : decode cL_law 927 = .ok (.iconst 0, 1) := by decide +kernel
theorem dL_law_928 : decode cL_law 928 = .ok (.invokevirtual 113, 3) := by decide +kernel
theorem dL_law_931 : decode cL_law 931 = .ok (.if_icmp .eq 449, 3) := by decide +kernel
theorem dL_law_934 : decode cL_law 934 = .ok (.iconst 0, 1) := by decide +kernel
theorem dL_law_935 : decode cL_law 935 = .ok (.ireturn, 1) := by decide +kernel
theorem dL_law_936 : decode cL_law 936 = .ok (.aload_n 1, 1) := by decide +kernel
theorem dL_law_937 : decode cL_law 937 = .ok (.aload_n 0, 1) := by decide +kernel
theorem dL_law_938 : decode cL_law 938 = .ok (.iload_n 3, 1) := by decide +kernel
theorem dL_law_939 : decode cL_law 939 = .ok (.iconst 1, 1) := by decide +kernel
theorem dL_law_940 : decode cL_law 940 = .ok (.iadd, 1) := by decide +kernel
theorem dL_law_941 : decode cL_law 941 = .ok (.iaload, 1) := by decide +kernel
theorem dL_law_942 : decode cL_law 942 = .ok (.aload_n 0, 1) := by decide +kernel
theorem dL_law_943 : decode cL_law 943 = .ok (.iload_n 3, 1) := by decide +kernel
theorem dL_law_944 : decode cL_law 944 = .ok (.iconst 2, 1) := by decide +kernel
theorem dL_law_945 : decode cL_law 945 = .ok (.iadd, 1) := by decide +kernel
theorem dL_law_946 : decode cL_law 946 = .ok (.iaload, 1) := by decide +kernel
theorem dL_law_947 : decode cL_law 947 = .ok (.invokevirtual 114, 3) := by decide +kernel
theorem dL_law_950 : decode cL_law 950 = .ok (.aload_n 2, 1) := by decide +kernel
theorem dL_law_951 : decode cL_law 951 = .ok (.aload_n 0, 1) := by decide +kernel
theorem dL_law_952 : decode cL_law 952 = .ok (.iload_n 3, 1) := by decide +kernel
theorem dL_law_953 : decode cL_law 953 = .ok (.iconst 1, 1) := by decide +kernel
theorem dL_law_954 : decode cL_law 954 = .ok (.iadd, 1) := by decide +kernel
theorem dL_law_955 : decode cL_law 955 = .ok (.iaload, 1) := by decide +kernel
theorem dL_law_956 : decode cL_law 956 = .ok (.aload_n 0, 1) := by decide +kernel
theorem dL_law_957 : decode cL_law 957 = .ok (.iload_n 3, 1) := by decide +kernel
theorem dL_law_958 : decode cL_law 958 = .ok (.iconst 2, 1) := by decide +kernel
theorem dL_law_959 : decode cL_law 959 = .ok (.iadd, 1) := by decide +kernel
theorem dL_law_960 : decode cL_law 960 = .ok (.iaload, 1) := by decide +kernel
theorem dL_law_961 : decode cL_law 961 = .ok (.invokevirtual 117, 3) := by decide +kernel
theorem dL_law_964 : decode cL_law 964 = .ok (.if_icmp .eq 416, 3) := by decide +kernel
theorem dL_law_967 : decode cL_law 967 = .ok (.iconst 0, 1) := by decide +kernel
theorem dL_law_968 : decode cL_law 968 = .ok (.ireturn, 1) := by decide +kernel
theorem dL_law_969 : decode cL_law 969 = .ok (.aload_n 1, 1) := by decide +kernel
theorem dL_law_970 : decode cL_law 970 = .ok (.aload_n 0, 1) := by decide +kernel
theorem dL_law_971 : decode cL_law 971 = .ok (.iload_n 3, 1) := by decide +kernel
theorem dL_law_972 : decode cL_law 972 = .ok (.iconst 1, 1) := by decide +kernel
theorem dL_law_973 : decode cL_law 973 = .ok (.iadd, 1) := by decide +kernel
theorem dL_law_974 : decode cL_law 974 = .ok (.iaload, 1) := by decide +kernel
theorem dL_law_975 : decode cL_law 975 = .ok (.invokevirtual 118, 3) := by decide +kernel
theorem dL_law_978 : decode cL_law 978 = .ok (.aload_n 2, 1) := by decide +kernel
theorem dL_law_979 : decode cL_law 979 = .ok (.aload_n 0, 1) := by decide +kernel
theorem dL_law_980 : decode cL_law 980 = .ok (.iload_n 3, 1) := by decide +kernel
theorem dL_law_981 : decode cL_law 981 = .ok (.iconst 1, 1) := by decide +kernel
theorem dL_law_982 : decode cL_law 982 = .ok (.iadd, 1) := by decide +kernel
theorem dL_law_983 : decode cL_law 983 = .ok (.iaload, 1) := by decide +kernel
theorem dL_law_984 : decode cL_law 984 = .ok (.invokevirtual 121, 3) := by decide +kernel
theorem dL_law_987 : decode cL_law 987 = .ok (.lcmp, 1) := by decide +kernel
theorem dL_law_988 : decode cL_law 988 = .ok (.ifCond .eq 392, 3) := by decide +kernel
theorem dL_law_991 : decode cL_law 991 = .ok (.iconst 0, 1) := by decide +kernel
theorem dL_law_992 : decode cL_law 992 = .ok (.ireturn, 1) := by decide +kernel
theorem dL_law_993 : decode cL_law 993 = .ok (.aload_n 1, 1) := by decide +kernel
theorem dL_law_994 : decode cL_law 994 = .ok (.aload_n 0, 1) := by decide +kernel
theorem dL_law_995 : decode cL_law 995 = .ok (.iload_n 3, 1) := by decide +kernel
theorem dL_law_996 : decode cL_law 996 = .ok (.iconst 1, 1) := by decide +kernel
theorem dL_law_997 : decode cL_law 997 = .ok (.iadd, 1) := by decide +kernel
theorem dL_law_998 : decode cL_law 998 = .ok (.iaload, 1) := by decide +kernel
theorem dL_law_999 : decode cL_law 999 = .ok (.aload_n 0, 1) := by decide +kernel
theorem dL_law_1000 : decode cL_law 1000 = .ok (.iload_n 3, 1) := by decide +kernel
theorem dL_law_1001 : decode cL_law 1001 = .ok (.iconst 2, 1) := by decide +kernel
theorem dL_law_1002 : decode cL_law 1002 = .ok (.iadd, 1) := by decide +kernel
theorem dL_law_1003 : decode cL_law 1003 = .ok (.iaload, 1) := by decide +kernel
theorem dL_law_1004 : decode cL_law 1004 = .ok (.invokevirtual 122, 3) := by decide +kernel
theorem dL_law_1007 : decode cL_law 1007 = .ok (.aload_n 2, 1) := by decide +kernel
theorem dL_law_1008 : decode cL_law 1008 = .ok (.aload_n 0, 1) := by decide +kernel
theorem dL_law_1009 : decode cL_law 1009 = .ok (.iload_n 3, 1) := by decide +kernel
theorem dL_law_1010 : decode cL_law 1010 = .ok (.iconst 1, 1) := by decide +kernel
theorem dL_law_1011 : decode cL_law 1011 = .ok (.iadd, 1) := by decide +kernel
theorem dL_law_1012 : decode cL_law 1012 = .ok (.iaload, 1) := by decide +kernel
theorem dL_law_1013 : decode cL_law 1013 = .ok (.aload_n 0, 1) := by decide +kernel
theorem dL_law_1014 : decode cL_law 1014 = .ok (.iload_n 3, 1) := by decide +kernel
theorem dL_law_1015 : decode cL_law 1015 = .ok (.iconst 2, 1) := by decide +kernel
theorem dL_law_1016 : decode cL_law 1016 = .ok (.iadd, 1) := by decide +kernel
theorem dL_law_1017 : decode cL_law 1017 = .ok (.iaload, 1) := by decide +kernel
theorem dL_law_1018 : decode cL_law 1018 = .ok (.invokevirtual 125, 3) := by decide +kernel
theorem dL_law_1021 : decode cL_law 1021 = .ok (.if_icmp .eq 359, 3) := by decide +kernel
theorem dL_law_1024 : decode cL_law 1024 = .ok (.iconst 0, 1) := by decide +kernel
theorem dL_law_1025 : decode cL_law 1025 = .ok (.ireturn, 1) := by decide +kernel
theorem dL_law_1026 : decode cL_law 1026 = .ok (.aload_n 1, 1) := by decide +kernel
theorem dL_law_1027 : decode cL_law 1027 = .ok (.aload_n 0, 1) := by decide +kernel
theorem dL_law_1028 : decode cL_law 1028 = .ok (.iload_n 3, 1) := by decide +kernel
theorem dL_law_1029 : decode cL_law 1029 = .ok (.iconst 1, 1) := by decide +kernel
theorem dL_law_1030 : decode cL_law 1030 = .ok (.iadd, 1) := by decide +kernel
theorem dL_law_1031 : decode cL_law 1031 = .ok (.iaload, 1) := by decide +kernel
theorem dL_law_1032 : decode cL_law 1032 = .ok (.invokevirtual 126, 3) := by decide +kernel
theorem dL_law_1035 : decode cL_law 1035 = .ok (.aload_n 2, 1) := by decide +kernel
theorem dL_law_1036 : decode cL_law 1036 = .ok (.aload_n 0, 1) := by decide +kernel
theorem dL_law_1037 : decode cL_law 1037 = .ok (.iload_n 3, 1) := by decide +kernel
theorem dL_law_1038 : decode cL_law 1038 = .ok (.iconst 1, 1) := by decide +kernel
theorem dL_law_1039 : decode cL_law 1039 = .ok (.iadd, 1) := by decide +kernel
theorem dL_law_1040 : decode cL_law 1040 = .ok (.iaload, 1) := by decide +kernel
theorem dL_law_1041 : decode cL_law 1041 = .ok (.invokevirtual 129, 3) := by decide +kernel
theorem dL_law_1044 : decode cL_law 1044 = .ok (.if_icmp .eq 336, 3) := by decide +kernel
theorem dL_law_1047 : decode cL_law 1047 = .ok (.iconst 0, 1) := by decide +kernel
theorem dL_law_1048 : decode cL_law 1048 = .ok (.ireturn, 1) := by decide +kernel
theorem dL_law_1049 : decode cL_law 1049 = .ok (.aload_n 1, 1) := by decide +kernel
theorem dL_law_1050 : decode cL_law 1050 = .ok (.aload_n 0, 1) := by decide +kernel
theorem dL_law_1051 : decode cL_law 1051 = .ok (.iload_n 3, 1) := by decide +kernel
theorem dL_law_1052 : decode cL_law 1052 = .ok (.iconst 1, 1) := by decide +kernel
theorem dL_law_1053 : decode cL_law 1053 = .ok (.iadd, 1) := by decide +kernel
theorem dL_law_1054 : decode cL_law 1054 = .ok (.iaload, 1) := by decide +kernel
theorem dL_law_1055 : decode cL_law 1055 = .ok (.invokevirtual 130, 3) := by decide +kernel
theorem dL_law_1058 : decode cL_law 1058 = .ok (.aload_n 2, 1) := by decide +kernel
theorem dL_law_1059 : decode cL_law 1059 = .ok (.aload_n 0, 1) := by decide +kernel
theorem dL_law_1060 : decode cL_law 1060 = .ok (.iload_n 3, 1) := by decide +kernel
theorem dL_law_1061 : decode cL_law 1061 = .ok (.iconst 1, 1) := by decide +kernel
theorem dL_law_1062 : decode cL_law 1062 = .ok (.iadd, 1) := by decide +kernel
theorem dL_law_1063 : decode cL_law 1063 = .ok (.iaload, 1) := by decide +kernel
theorem dL_law_1064 : decode cL_law 1064 = .ok (.invokevirtual 133, 3) := by decide +kernel
theorem dL_law_1067 : decode cL_law 1067 = .ok (.if_icmp .eq 313, 3) := by decide +kernel
theorem dL_law_1070 : decode cL_law 1070 = .ok (.iconst 0, 1) := by decide +kernel
theorem dL_law_1071 : decode cL_law 1071 = .ok (.ireturn, 1) := by decide +kernel
theorem dL_law_1072 : decode cL_law 1072 = .ok (.aload_n 1, 1) := by decide +kernel
theorem dL_law_1073 : decode cL_law 1073 = .ok (.invokevirtual 134, 3) := by decide +kernel
theorem dL_law_1076 : decode cL_law 1076 = .ok (.aload_n 2, 1) := by decide +kernel
theorem dL_law_1077 : decode cL_law 1077 = .ok (.invokevirtual 137, 3) := by decide +kernel
theorem dL_law_1080 : decode cL_law 1080 = .ok (.if_icmp .eq 300, 3) := by decide +kernel
theorem dL_law_1083 : decode cL_law 1083 = .ok (.iconst 0, 1) := by decide +kernel
theorem dL_law_1084 : decode cL_law 1084 = .ok (.ireturn, 1) := by decide +kernel
theorem dL_law_1085 : decode cL_law 1085 = .ok (.aload_n 1, 1) := by decide +kernel
theorem dL_law_1086 : decode cL_law 1086 = .ok (.aload_n 0, 1) := by decide +kernel
theorem dL_law_1087 : decode cL_law 1087 = .ok (.iload_n 3, 1) := by decide +kernel
theorem dL_law_1088 : decode cL_law 1088 = .ok (.iconst 1, 1) := by decide +kernel
theorem dL_law_1089 : decode cL_law 1089 = .ok (.iadd, 1) := by decide +kernel
theorem dL_law_1090 : decode cL_law 1090 = .ok (.iaload, 1) := by decide +kernel
theorem dL_law_1091 : decode cL_law 1091 = .ok (.aload_n 0, 1) := by decide +kernel
theorem dL_law_1092 : decode cL_law 1092 = .ok (.iload_n 3, 1) := by decide +kernel
theorem dL_law_1093 : decode cL_law 1093 = .ok (.iconst 2, 1) := by decide +kernel
theorem dL_law_1094 : decode cL_law 1094 = .ok (.iadd, 1) := by decide +kernel
theorem dL_law_1095 : decode cL_law 1095 = .ok (.iaload, 1) := by decide +kernel
theorem dL_law_1096 : decode cL_law 1096 = .ok (.invokevirtual 138, 3) := by decide +kernel
theorem dL_law_1099 : decode cL_law 1099 = .ok (.aload_n 2, 1) := by decide +kernel
theorem dL_law_1100 : decode cL_law 1100 = .ok (.aload_n 0, 1) := by decide +kernel
theorem dL_law_1101 : decode cL_law 1101 = .ok (.iload_n 3, 1) := by decide +kernel
theorem dL_law_1102 : decode cL_law 1102 = .ok (.iconst 1, 1) := by decide +kernel
theorem dL_law_1103 : decode cL_law 1103 = .ok (.iadd, 1) := by decide +kernel
theorem dL_law_1104 : decode cL_law 1104 = .ok (.iaload, 1) := by decide +kernel
theorem dL_law_1105 : decode cL_law 1105 = .ok (.aload_n 0, 1) := by decide +kernel
theorem dL_law_1106 : decode cL_law 1106 = .ok (.iload_n 3, 1) := by decide +kernel
theorem dL_law_1107 : decode cL_law 1107 = .ok (.iconst 2, 1) := by decide +kernel
theorem dL_law_1108 : decode cL_law 1108 = .ok (.iadd, 1) := by decide +kernel
theorem dL_law_1109 : decode cL_law 1109 = .ok (.iaload, 1) := by decide +kernel
theorem dL_law_1110 : decode cL_law 1110 = .ok (.invokevirtual 141, 3) := by decide +kernel
theorem dL_law_1113 : decode cL_law 1113 = .ok (.if_icmp .eq 267, 3) := by decide +kernel
theorem dL_law_1116 : decode cL_law 1116 = .ok (.iconst 0, 1) := by decide +kernel
theorem dL_law_1117 : decode cL_law 1117 = .ok (.ireturn, 1) := by decide +kernel
theorem dL_law_1118 : decode cL_law 1118 = .ok (.aload_n 1, 1) := by decide +kernel
theorem dL_law_1119 : decode cL_law 1119 = .ok (.invokevirtual 142, 3) := by decide +kernel
theorem dL_law_1122 : decode cL_law 1122 = .ok (.aload_n 2, 1) := by decide +kernel
theorem dL_law_1123 : decode cL_law 1123 = .ok (.invokevirtual 145, 3) := by decide +kernel
theorem dL_law_1126 : decode cL_law 1126 = .ok (.if_icmp .eq 254, 3) := by decide +kernel
theorem dL_law_1129 : decode cL_law 1129 = .ok (.iconst 0, 1) := by decide +kernel
theorem dL_law_1130 : decode cL_law 1130 = .ok (.ireturn, 1) := by decide +kernel
theorem dL_law_1131 : decode cL_law 1131 = .ok (.aload_n 1, 1) := by decide +kernel
theorem dL_law_1132 : decode cL_law 1132 = .ok (.invokevirtual 146, 3) := by decide +kernel
theorem dL_law_1135 : decode cL_law 1135 = .ok (.aload_n 2, 1) := by decide +kernel
theorem dL_law_1136 : decode cL_law 1136 = .ok (.invokevirtual 149, 3) := by decide +kernel
theorem dL_law_1139 : decode cL_law 1139 = .ok (.if_icmp .eq 241, 3) := by decide +kernel
theorem dL_law_1142 : decode cL_law 1142 = .ok (.iconst 0, 1) := by decide +kernel
theorem dL_law_1143 : decode cL_law 1143 = .ok (.ireturn, 1) := by decide +kernel
theorem dL_law_1144 : decode cL_law 1144 = .ok (.aload_n 1, 1) := by decide +kernel
theorem dL_law_1145 : decode cL_law 1145 = .ok (.aload_n 0, 1) := by decide +kernel
theorem dL_law_1146 : decode cL_law 1146 = .ok (.iload_n 3, 1) := by decide +kernel
theorem dL_law_1147 : decode cL_law 1147 = .ok (.iconst 1, 1) := by decide +kernel
theorem dL_law_1148 : decode cL_law 1148 = .ok (.iadd, 1) := by decide +kernel
theorem dL_law_1149 : decode cL_law 1149 = .ok (.iaload, 1) := by decide +kernel
theorem dL_law_1150 : decode cL_law 1150 = .ok (.invokevirtual 150, 3) := by decide +kernel
theorem dL_law_1153 : decode cL_law 1153 = .ok (.aload_n 2, 1) := by decide +kernel
theorem dL_law_1154 : decode cL_law 1154 = .ok (.aload_n 0, 1) := by decide +kernel
theorem dL_law_1155 : decode cL_law 1155 = .ok (.iload_n 3, 1) := by decide +kernel
theorem dL_law_1156 : decode cL_law 1156 = .ok (.iconst 1, 1) := by decide +kernel
theorem dL_law_1157 : decode cL_law 1157 = .ok (.iadd, 1) := by decide +kernel
theorem dL_law_1158 : decode cL_law 1158 = .ok (.iaload, 1) := by decide +kernel
theorem dL_law_1159 : decode cL_law 1159 = .ok (.invokevirtual 153, 3) := by decide +kernel
theorem dL_law_1162 : decode cL_law 1162 = .ok (.if_icmp .eq 218, 3) := by decide +kernel
theorem dL_law_1165 : decode cL_law 1165 = .ok (.iconst 0, 1) := by decide +kernel
theorem dL_law_1166 : decode cL_law 1166 = .ok (.ireturn, 1) := by decide +kernel
theorem dL_law_1167 : decode cL_law 1167 = .ok (.aload_n 1, 1) := by decide +kernel
theorem dL_law_1168 : decode cL_law 1168 = .ok (.aload_n 0, 1) := by decide +kernel
theorem dL_law_1169 : decode cL_law 1169 = .ok (.iload_n 3, 1) := by decide +kernel
theorem dL_law_1170 : decode cL_law 1170 = .ok (.iconst 1, 1) := by decide +kernel
theorem dL_law_1171 : decode cL_law 1171 = .ok (.iadd, 1) := by decide +kernel
theorem dL_law_1172 : decode cL_law 1172 = .ok (.iaload, 1) := by decide +kernel
theorem dL_law_1173 : decode cL_law 1173 = .ok (.aload_n 0, 1) := by decide +kernel
theorem dL_law_1174 : decode cL_law 1174 = .ok (.iload_n 3, 1) := by decide +kernel
theorem dL_law_1175 : decode cL_law 1175 = .ok (.iconst 2, 1) := by decide +kernel
theorem dL_law_1176 : decode cL_law 1176 = .ok (.iadd, 1) := by decide +kernel
theorem dL_law_1177 : decode cL_law 1177 = .ok (.iaload, 1) := by decide +kernel
theorem dL_law_1178 : decode cL_law 1178 = .ok (.aload_n 0, 1) := by decide +kernel
theorem dL_law_1179 : decode cL_law 1179 = .ok (.iload_n 3, 1) := by decide +kernel
theorem dL_law_1180 : decode cL_law 1180 = .ok (.iconst 3, 1) := by decide +kernel
theorem dL_law_1181 : decode cL_law 1181 = .ok (.iadd, 1) := by decide +kernel
theorem dL_law_1182 : decode cL_law 1182 = .ok (.iaload, 1) := by decide +kernel
theorem dL_law_1183 : decode cL_law 1183 = .ok (.invokevirtual 154, 3) := by decide +kernel
theorem dL_law_1186 : decode cL_law 1186 = .ok (.aload_n 2, 1) := by decide +kernel
theorem dL_law_1187 : decode cL_law 1187 = .ok (.aload_n 0, 1) := by decide +kernel
theorem dL_law_1188 : decode cL_law 1188 = .ok (.iload_n 3, 1) := by decide +kernel
theorem dL_law_1189 : decode cL_law 1189 = .ok (.iconst 1, 1) := by decide +kernel
theorem dL_law_1190 : decode cL_law 1190 = .ok (.iadd, 1) := by decide +kernel
theorem dL_law_1191 : decode cL_law 1191 = .ok (.iaload, 1) := by decide +kernel
theorem dL_law_1192 : decode cL_law 1192 = .ok (.aload_n 0, 1) := by decide +kernel
theorem dL_law_1193 : decode cL_law 1193 = .ok (.iload_n 3, 1) := by decide +kernel
theorem dL_law_1194 : decode cL_law 1194 = .ok (.iconst 2, 1) := by decide +kernel
theorem dL_law_1195 : decode cL_law 1195 = .ok (.iadd, 1) := by decide +kernel
theorem dL_law_1196 : decode cL_law 1196 = .ok (.iaload, 1) := by decide +kernel
theorem dL_law_1197 : decode cL_law 1197 = .ok (.aload_n 0, 1) := by decide +kernel
theorem dL_law_1198 : decode cL_law 1198 = .ok (.iload_n 3, 1) := by decide +kernel
theorem dL_law_1199 : decode cL_law 1199 = .ok (.iconst 3, 1) := by decide +kernel
theorem dL_law_1200 : decode cL_law 1200 = .ok (.iadd, 1) := by decide +kernel
theorem dL_law_1201 : decode cL_law 1201 = .ok (.iaload, 1) := by decide +kernel
theorem dL_law_1202 : decode cL_law 1202 = .ok (.invokevirtual 157, 3) := by decide +kernel
theorem dL_law_1205 : decode cL_law 1205 = .ok (.if_icmp .eq 175, 3) := by decide +kernel
theorem dL_law_1208 : decode cL_law 1208 = .ok (.iconst 0, 1) := by decide +kernel
theorem dL_law_1209 : decode cL_law 1209 = .ok (.ireturn, 1) := by decide +kernel
theorem dL_law_1210 : decode cL_law 1210 = .ok (.aload_n 1, 1) := by decide +kernel
theorem dL_law_1211 : decode cL_law 1211 = .ok (.aload_n 0, 1) := by decide +kernel
theorem dL_law_1212 : decode cL_law 1212 = .ok (.iload_n 3, 1) := by decide +kernel
theorem dL_law_1213 : decode cL_law 1213 = .ok (.iconst 1, 1) := by decide +kernel
theorem dL_law_1214 : decode cL_law 1214 = .ok (.iadd, 1) := by decide +kernel
theorem dL_law_1215 : decode cL_law 1215 = .ok (.iaload, 1) := by decide +kernel
theorem dL_law_1216 : decode cL_law 1216 = .ok (.aload_n 0, 1) := by decide +kernel
theorem dL_law_1217 : decode cL_law 1217 = .ok (.iload_n 3, 1) := by decide +kernel
theorem dL_law_1218 : decode cL_law 1218 = .ok (.iconst 2, 1) := by decide +kernel
theorem dL_law_1219 : decode cL_law 1219 = .ok (.iadd, 1) := by decide +kernel
theorem dL_law_1220 : decode cL_law 1220 = .ok (.iaload, 1) := by decide +kernel
theorem dL_law_1221 : decode cL_law 1221 = .ok (.aload_n 0, 1) := by decide +kernel
theorem dL_law_1222 : decode cL_law 1222 = .ok (.iload_n 3, 1) := by decide +kernel
theorem dL_law_1223 : decode cL_law 1223 = .ok (.iconst 3, 1) := by decide +kernel
theorem dL_law_1224 : decode cL_law 1224 = .ok (.iadd, 1) := by decide +kernel
theorem dL_law_1225 : decode cL_law 1225 = .ok (.iaload, 1) := by decide +kernel
theorem dL_law_1226 : decode cL_law 1226 = .ok (.i2l, 1) := by decide +kernel
theorem dL_law_1227 : decode cL_law 1227 = .ok (.bipush 32, 2) := by decide +kernel
theorem dL_law_1229 : decode cL_law 1229 = .ok (.lshl, 1) := by decide +kernel
theorem dL_law_1230 : decode cL_law 1230 = .ok (.aload_n 0, 1) := by decide +kernel
theorem dL_law_1231 : decode cL_law 1231 = .ok (.iload_n 3, 1) := by decide +kernel
theorem dL_law_1232 : decode cL_law 1232 = .ok (.iconst 4, 1) := by decide +kernel
theorem dL_law_1233 : decode cL_law 1233 = .ok (.iadd, 1) := by decide +kernel
theorem dL_law_1234 : decode cL_law 1234 = .ok (.iaload, 1) := by decide +kernel
theorem dL_law_1235 : decode cL_law 1235 = .ok (.i2l, 1) := by decide +kernel
theorem dL_law_1236 : decode cL_law 1236 = .ok (.ldc2_w 158, 3) := by decide +kernel
theorem dL_law_1239 : decode cL_law 1239 = .ok (.land, 1) := by decide +kernel
theorem dL_law_1240 : decode cL_law 1240 = .ok (.lor, 1) := by decide +kernel
theorem dL_law_1241 : decode cL_law 1241 = .ok (.invokevirtual 160, 3) := by decide +kernel
theorem dL_law_1244 : decode cL_law 1244 = .ok (.aload_n 2, 1) := by decide +kernel
theorem dL_law_1245 : decode cL_law 1245 = .ok (.aload_n 0, 1) := by decide +kernel
theorem dL_law_1246 : decode cL_law 1246 = .ok (.iload_n 3, 1) := by decide +kernel
theorem dL_law_1247 : decode cL_law 1247 = .ok (.iconst 1, 1) := by decide +kernel
theorem dL_law_1248 : decode cL_law 1248 = .ok (.iadd, 1) := by decide +kernel
theorem dL_law_1249 : decode cL_law 1249 = .ok (.iaload, 1) := by decide +kernel
theorem dL_law_1250 : decode cL_law 1250 = .ok (.aload_n 0, 1) := by decide +kernel
theorem dL_law_1251 : decode cL_law 1251 = .ok (.iload_n 3, 1) := by decide +kernel
theorem dL_law_1252 : decode cL_law 1252 = .ok (.iconst 2, 1) := by decide +kernel
theorem dL_law_1253 : decode cL_law 1253 = .ok (.iadd, 1) := by decide +kernel
theorem dL_law_1254 : decode cL_law 1254 = .ok (.iaload, 1) := by decide +kernel
theorem dL_law_1255 : decode cL_law 1255 = .ok (.aload_n 0, 1) := by decide +kernel
theorem dL_law_1256 : decode cL_law 1256 = .ok (.iload_n 3, 1) := by decide +kernel
theorem dL_law_1257 : decode cL_law 1257 = .ok (.iconst 3, 1) := by decide +kernel
theorem dL_law_1258 : decode cL_law 1258 = .ok (.iadd, 1) := by decide +kernel
theorem dL_law_1259 : decode cL_law 1259 = .ok (.iaload, 1) := by decide +kernel
theorem dL_law_1260 : decode cL_law 1260 = .ok (.i2l, 1) := by decide +kernel
theorem dL_law_1261 : decode cL_law 1261 = .ok (.bipush 32, 2) := by decide +kernel
theorem dL_law_1263 : decode cL_law 1263 = .ok (.lshl, 1) := by decide +kernel
theorem dL_law_1264 : decode cL_law 1264 = .ok (.aload_n 0, 1) := by decide +kernel
theorem dL_law_1265 : decode cL_law 1265 = .ok (.iload_n 3, 1) := by decide +kernel
theorem dL_law_1266 : decode cL_law 1266 = .ok (.iconst 4, 1) := by decide +kernel
theorem dL_law_1267 : decode cL_law 1267 = .ok (.iadd, 1) := by decide +kernel
theorem dL_law_1268 : decode cL_law 1268 = .ok (.iaload, 1) := by decide +kernel
theorem dL_law_1269 : decode cL_law 1269 = .ok (.i2l, 1) := by decide +kernel
theorem dL_law_1270 : decode cL_law 1270 = .ok (.ldc2_w 158, 3) := by decide +kernel
theorem dL_law_1273 : decode cL_law 1273 = .ok (.land, 1) := by decide +kernel
theorem dL_law_1274 : decode cL_law 1274 = .ok (.lor, 1) := by decide +kernel
theorem dL_law_1275 : decode cL_law 1275 = .ok (.invokevirtual 164, 3) := by decide +kernel
theorem dL_law_1278 : decode cL_law 1278 = .ok (.if_icmp .eq 102, 3) := by decide +kernel
theorem dL_law_1281 : decode cL_law 1281 = .ok (.iconst 0, 1) := by decide +kernel
theorem dL_law_1282 : decode cL_law 1282 = .ok (.ireturn, 1) := by decide +kernel
theorem dL_law_1283 : decode cL_law 1283 = .ok (.aload_n 1, 1) := by decide +kernel
theorem dL_law_1284 : decode cL_law 1284 = .ok (.aload_n 0, 1) := by decide +kernel
theorem dL_law_1285 : decode cL_law 1285 = .ok (.iload_n 3, 1) := by decide +kernel
theorem dL_law_1286 : decode cL_law 1286 = .ok (.iconst 1, 1) := by decide +kernel
theorem dL_law_1287 : decode cL_law 1287 = .ok (.iadd, 1) := by decide +kernel
theorem dL_law_1288 : decode cL_law 1288 = .ok (.iaload, 1) := by decide +kernel
theorem dL_law_1289 : decode cL_law 1289 = .ok (.aload_n 0, 1) := by decide +kernel
theorem dL_law_1290 : decode cL_law 1290 = .ok (.iload_n 3, 1) := by decide +kernel
theorem dL_law_1291 : decode cL_law 1291 = .ok (.iconst 2, 1) := by decide +kernel
theorem dL_law_1292 : decode cL_law 1292 = .ok (.iadd, 1) := by decide +kernel
theorem dL_law_1293 : decode cL_law 1293 = .ok (.iaload, 1) := by decide +kernel
theorem dL_law_1294 : decode cL_law 1294 = .ok (.invokevirtual 165, 3) := by decide +kernel
theorem dL_law_1297 : decode cL_law 1297 = .ok (.aload_n 2, 1) := by decide +kernel
theorem dL_law_1298 : decode cL_law 1298 = .ok (.aload_n 0, 1) := by decide +kernel
theorem dL_law_1299 : decode cL_law 1299 = .ok (.iload_n 3, 1) := by decide +kernel
theorem dL_law_1300 : decode cL_law 1300 = .ok (.iconst 1, 1) := by decide +kernel
theorem dL_law_1301 : decode cL_law 1301 = .ok (.iadd, 1) := by decide +kernel
theorem dL_law_1302 : decode cL_law 1302 = .ok (.iaload, 1) := by decide +kernel
theorem dL_law_1303 : decode cL_law 1303 = .ok (.aload_n 0, 1) := by decide +kernel
theorem dL_law_1304 : decode cL_law 1304 = .ok (.iload_n 3, 1) := by decide +kernel
theorem dL_law_1305 : decode cL_law 1305 = .ok (.iconst 2, 1) := by decide +kernel
theorem dL_law_1306 : decode cL_law 1306 = .ok (.iadd, 1) := by decide +kernel
theorem dL_law_1307 : decode cL_law 1307 = .ok (.iaload, 1) := by decide +kernel
theorem dL_law_1308 : decode cL_law 1308 = .ok (.invokevirtual 168, 3) := by decide +kernel
theorem dL_law_1311 : decode cL_law 1311 = .ok (.lcmp, 1) := by decide +kernel
theorem dL_law_1312 : decode cL_law 1312 = .ok (.ifCond .eq 68, 3) := by decide +kernel
theorem dL_law_1315 : decode cL_law 1315 = .ok (.iconst 0, 1) := by decide +kernel
theorem dL_law_1316 : decode cL_law 1316 = .ok (.ireturn, 1) := by decide +kernel
theorem dL_law_1317 : decode cL_law 1317 = .ok (.aload_n 1, 1) := by decide +kernel
theorem dL_law_1318 : decode cL_law 1318 = .ok (.aload_n 0, 1) := by decide +kernel
theorem dL_law_1319 : decode cL_law 1319 = .ok (.iload_n 3, 1) := by decide +kernel
theorem dL_law_1320 : decode cL_law 1320 = .ok (.iconst 1, 1) := by decide +kernel
theorem dL_law_1321 : decode cL_law 1321 = .ok (.iadd, 1) := by decide +kernel
theorem dL_law_1322 : decode cL_law 1322 = .ok (.iaload, 1) := by decide +kernel
theorem dL_law_1323 : decode cL_law 1323 = .ok (.aload_n 0, 1) := by decide +kernel
theorem dL_law_1324 : decode cL_law 1324 = .ok (.iload_n 3, 1) := by decide +kernel
theorem dL_law_1325 : decode cL_law 1325 = .ok (.iconst 2, 1) := by decide +kernel
theorem dL_law_1326 : decode cL_law 1326 = .ok (.iadd, 1) := by decide +kernel
theorem dL_law_1327 : decode cL_law 1327 = .ok (.iaload, 1) := by decide +kernel
theorem dL_law_1328 : decode cL_law 1328 = .ok (.aload_n 0, 1) := by decide +kernel
theorem dL_law_1329 : decode cL_law 1329 = .ok (.iload_n 3, 1) := by decide +kernel
theorem dL_law_1330 : decode cL_law 1330 = .ok (.iconst 3, 1) := by decide +kernel
theorem dL_law_1331 : decode cL_law 1331 = .ok (.iadd, 1) := by decide +kernel
theorem dL_law_1332 : decode cL_law 1332 = .ok (.iaload, 1) := by decide +kernel
theorem dL_law_1333 : decode cL_law 1333 = .ok (.aload_n 0, 1) := by decide +kernel
theorem dL_law_1334 : decode cL_law 1334 = .ok (.iload_n 3, 1) := by decide +kernel
theorem dL_law_1335 : decode cL_law 1335 = .ok (.iconst 4, 1) := by decide +kernel
theorem dL_law_1336 : decode cL_law 1336 = .ok (.iadd, 1) := by decide +kernel
theorem dL_law_1337 : decode cL_law 1337 = .ok (.iaload, 1) := by decide +kernel
theorem dL_law_1338 : decode cL_law 1338 = .ok (.aload_n 0, 1) := by decide +kernel
theorem dL_law_1339 : decode cL_law 1339 = .ok (.iload_n 3, 1) := by decide +kernel
theorem dL_law_1340 : decode cL_law 1340 = .ok (.iconst 5, 1) := by decide +kernel
theorem dL_law_1341 : decode cL_law 1341 = .ok (.iadd, 1) := by decide +kernel
theorem dL_law_1342 : decode cL_law 1342 = .ok (.iaload, 1) := by decide +kernel
theorem dL_law_1343 : decode cL_law 1343 = .ok (.invokevirtual 169, 3) := by decide +kernel
theorem dL_law_1346 : decode cL_law 1346 = .ok (.aload_n 2, 1) := by decide +kernel
theorem dL_law_1347 : decode cL_law 1347 = .ok (.aload_n 0, 1) := by decide +kernel
theorem dL_law_1348 : decode cL_law 1348 = .ok (.iload_n 3, 1) := by decide +kernel
theorem dL_law_1349 : decode cL_law 1349 = .ok (.iconst 1, 1) := by decide +kernel
theorem dL_law_1350 : decode cL_law 1350 = .ok (.iadd, 1) := by decide +kernel
theorem dL_law_1351 : decode cL_law 1351 = .ok (.iaload, 1) := by decide +kernel
theorem dL_law_1352 : decode cL_law 1352 = .ok (.aload_n 0, 1) := by decide +kernel
theorem dL_law_1353 : decode cL_law 1353 = .ok (.iload_n 3, 1) := by decide +kernel
theorem dL_law_1354 : decode cL_law 1354 = .ok (.iconst 2, 1) := by decide +kernel
theorem dL_law_1355 : decode cL_law 1355 = .ok (.iadd, 1) := by decide +kernel
theorem dL_law_1356 : decode cL_law 1356 = .ok (.iaload, 1) := by decide +kernel
theorem dL_law_1357 : decode cL_law 1357 = .ok (.aload_n 0, 1) := by decide +kernel
theorem dL_law_1358 : decode cL_law 1358 = .ok (.iload_n 3, 1) := by decide +kernel
theorem dL_law_1359 : decode cL_law 1359 = .ok (.iconst 3, 1) := by decide +kernel
theorem dL_law_1360 : decode cL_law 1360 = .ok (.iadd, 1) := by decide +kernel
theorem dL_law_1361 : decode cL_law 1361 = .ok (.iaload, 1) := by decide +kernel
theorem dL_law_1362 : decode cL_law 1362 = .ok (.aload_n 0, 1) := by decide +kernel
theorem dL_law_1363 : decode cL_law 1363 = .ok (.iload_n 3, 1) := by decide +kernel
theorem dL_law_1364 : decode cL_law 1364 = .ok (.iconst 4, 1) := by decide +kernel
theorem dL_law_1365 : decode cL_law 1365 = .ok (.iadd, 1) := by decide +kernel
theorem dL_law_1366 : decode cL_law 1366 = .ok (.iaload, 1) := by decide +kernel
theorem dL_law_1367 : decode cL_law 1367 = .ok (.aload_n 0, 1) := by decide +kernel
theorem dL_law_1368 : decode cL_law 1368 = .ok (.iload_n 3, 1) := by decide +kernel
theorem dL_law_1369 : decode cL_law 1369 = .ok (.iconst 5, 1) := by decide +kernel
theorem dL_law_1370 : decode cL_law 1370 = .ok (.iadd, 1) := by decide +kernel
theorem dL_law_1371 : decode cL_law 1371 = .ok (.iaload, 1) := by decide +kernel
theorem dL_law_1372 : decode cL_law 1372 = .ok (.invokevirtual 173, 3) := by decide +kernel
theorem dL_law_1375 : decode cL_law 1375 = .ok (.if_icmp .eq 5, 3) := by decide +kernel
theorem dL_law_1378 : decode cL_law 1378 = .ok (.iconst 0, 1) := by decide +kernel
theorem dL_law_1379 : decode cL_law 1379 = .ok (.ireturn, 1) := by decide +kernel
theorem dL_law_1380 : decode cL_law 1380 = .ok (.iinc 3 6, 3) := by decide +kernel
theorem dL_law_1383 : decode cL_law 1383 = .ok (.goto (-1365), 3) := by decide +kernel
theorem dL_law_1386 : decode cL_law 1386 = .ok (.iconst 1, 1) := by decide +kernel
theorem dL_law_1387 : decode cL_law 1387 = .ok (.ireturn, 1) := by decide +kernel
end
section
theorem dX9_init_0 : decode cX9_init 0 = .ok (.aload_n 0, 1) := by decide +kernel
theorem dX9_init_1 : decode cX9_init 1 = .ok (.invokespecial 3, 3) := by decide +kernel
theorem dX9_init_4 : decode cX9_init 4 = .ok (.aload_n 0, 1) := by decide +kernel
theorem dX9_init_5 : decode cX9_init 5 = .ok (.bipush 6, 2) := by decide +kernel
theorem dX9_init_7 : decode cX9_init 7 = .ok (.newarray .int, 2) := by decide +kernel
theorem dX9_init_9 : decode cX9_init 9 = .ok (.putfield 9, 3) := by decide +kernel
theorem dX9_init_12 : decode cX9_init 12 = .ok (.aload_n 0, 1) := by decide +kernel
theorem dX9_init_13 : decode cX9_init 13 = .ok (.bipush 6, 2) := by decide +kernel
theorem dX9_init_15 : decode cX9_init 15 = .ok (.newarray .int, 2) := by decide +kernel
theorem dX9_init_17 : decode cX9_init 17 = .ok (.putfield 15, 3) := by decide +kernel
theorem dX9_init_20 : decode cX9_init 20 = .ok (.aload_n 0, 1) := by decide +kernel
theorem dX9_init_21 : decode cX9_init 21 = .ok (.bipush 8, 2) := by decide +kernel
theorem dX9_init_23 : decode cX9_init 23 = .ok (.newarray .int, 2) := by decide +kernel
theorem dX9_init_25 : decode cX9_init 25 = .ok (.putfield 18, 3) := by decide +kernel
theorem dX9_init_28 : decode cX9_init 28 = .ok (.aload_n 0, 1) := by decide +kernel
theorem dX9_init_29 : decode cX9_init 29 = .ok (.bipush 8, 2) := by decide +kernel
theorem dX9_init_31 : decode cX9_init 31 = .ok (.newarray .int, 2) := by decide +kernel
theorem dX9_init_33 : decode cX9_init 33 = .ok (.putfield 21, 3) := by decide +kernel
theorem dX9_init_36 : decode cX9_init 36 = .ok (.aload_n 0, 1) := by decide +kernel
theorem dX9_init_37 : decode cX9_init 37 = .ok (.bipush 8, 2) := by decide +kernel
theorem dX9_init_39 : decode cX9_init 39 = .ok (.newarray .int, 2) := by decide +kernel
theorem dX9_init_41 : decode cX9_init 41 = .ok (.putfield 24, 3) := by decide +kernel
theorem dX9_init_44 : decode cX9_init 44 = .ok (.aload_n 0, 1) := by decide +kernel
theorem dX9_init_45 : decode cX9_init 45 = .ok (.bipush 32, 2) := by decide +kernel
theorem dX9_init_47 : decode cX9_init 47 = .ok (.newarray .int, 2) := by decide +kernel
theorem dX9_init_49 : decode cX9_init 49 = .ok (.putfield 27, 3) := by decide +kernel
theorem dX9_init_52 : decode cX9_init 52 = .ok (.aload_n 0, 1) := by decide +kernel
theorem dX9_init_53 : decode cX9_init 53 = .ok (.iconst (-1), 1) := by decide +kernel
theorem dX9_init_54 : decode cX9_init 54 = .ok (.putfield 30, 3) := by decide +kernel
theorem dX9_init_57 : decode cX9_init 57 = .ok (.aload_n 0, 1) := by decide +kernel
theorem dX9_init_58 : decode cX9_init 58 = .ok (.iconst 3, 1) := by decide +kernel
theorem dX9_init_59 : decode cX9_init 59 = .ok (.newarray .int, 2) := by decide +kernel
theorem dX9_init_61 : decode cX9_init 61 = .ok (.putfield 34, 3) := by decide +kernel
theorem dX9_init_64 : decode cX9_init 64 = .ok (.aload_n 0, 1) := by decide +kernel
theorem dX9_init_65 : decode cX9_init 65 = .ok (.iconst 3, 1) := by decide +kernel
theorem dX9_init_66 : decode cX9_init 66 = .ok (.newarray .int, 2) := by decide +kernel
theorem dX9_init_68 : decode cX9_init 68 = .ok (.putfield 37, 3) := by decide +kernel
theorem dX9_init_71 : decode cX9_init 71 = .ok (.aload_n 0, 1) := by decide +kernel
theorem dX9_init_72 : decode cX9_init 72 = .ok (.bipush 6, 2) := by decide +kernel
theorem dX9_init_74 : decode cX9_init 74 = .ok (.newarray .int, 2) := by decide +kernel
theorem dX9_init_76 : decode cX9_init 76 = .ok (.putfield 40, 3) := by decide +kernel
theorem dX9_init_79 : decode cX9_init 79 = .ok (.aload_n 0, 1) := by decide +kernel
theorem dX9_init_80 : decode cX9_init 80 = .ok (.bipush 6, 2) := by decide +kernel
theorem dX9_init_82 : decode cX9_init 82 = .ok (.newarray .int, 2) := by decide +kernel
theorem dX9_init_84 : decode cX9_init 84 = .ok (.putfield 43, 3) := by decide +kernel
theorem dX9_init_87 : decode cX9_init 87 = .ok (.aload_n 0, 1) := by decide +kernel
theorem dX9_init_88 : decode cX9_init 88 = .ok (.bipush 16, 2) := by decide +kernel
theorem dX9_init_90 : decode cX9_init 90 = .ok (.newarray .int, 2) := by decide +kernel
theorem dX9_init_92 : decode cX9_init 92 = .ok (.putfield 46, 3) := by decide +kernel
theorem dX9_init_95 : decode cX9_init 95 = .ok (.aload_n 0, 1) := by decide +kernel
theorem dX9_init_96 : decode cX9_init 96 = .ok (.bipush 8, 2) := by decide +kernel
theorem dX9_init_98 : decode cX9_init 98 = .ok (.newarray .int, 2) := by decide +kernel
theorem dX9_init_100 : decode cX9_init 100 = .ok (.putfield 49, 3) := by decide +kernel
theorem dX9_init_103 : decode cX9_init 103 = .ok (.aload_n 0, 1) := by decide +kernel
theorem dX9_init_104 : decode cX9_init 104 = .ok (.bipush 100, 2) := by decide +kernel
theorem dX9_init_106 : decode cX9_init 106 = .ok (.newarray .int, 2) := by decide +kernel
theorem dX9_init_108 : decode cX9_init 108 = .ok (.putfield 52, 3) := by decide +kernel
theorem dX9_init_111 : decode cX9_init 111 = .ok (.aload_n 0, 1) := by decide +kernel
theorem dX9_init_112 : decode cX9_init 112 = .ok (.bipush 8, 2) := by decide +kernel
theorem dX9_init_114 : decode cX9_init 114 = .ok (.newarray .boolean, 2) := by decide +kernel
theorem dX9_init_116 : decode cX9_init 116 = .ok (.putfield 55, 3) := by decide +kernel
theorem dX9_init_119 : decode cX9_init 119 = .ok (.aload_n 0, 1) := by decide +kernel
theorem dX9_init_120 : decode cX9_init 120 = .ok (.bipush 64, 2) := by decide +kernel
theorem dX9_init_122 : decode cX9_init 122 = .ok (.newarray .long, 2) := by decide +kernel
theorem dX9_init_124 : decode cX9_init 124 = .ok (.putfield 59, 3) := by decide +kernel
theorem dX9_init_127 : decode cX9_init 127 = .ok (.aload_n 0, 1) := by decide +kernel
theorem dX9_init_128 : decode cX9_init 128 = .ok (.bipush 64, 2) := by decide +kernel
theorem dX9_init_130 : decode cX9_init 130 = .ok (.newarray .int, 2) := by decide +kernel
theorem dX9_init_132 : decode cX9_init 132 = .ok (.putfield 63, 3) := by decide +kernel
theorem dX9_init_135 : decode cX9_init 135 = .ok (.aload_n 0, 1) := by decide +kernel
theorem dX9_init_136 : decode cX9_init 136 = .ok (.bipush 64, 2) := by decide +kernel
theorem dX9_init_138 : decode cX9_init 138 = .ok (.newarray .int, 2) := by decide +kernel
theorem dX9_init_140 : decode cX9_init 140 = .ok (.putfield 66, 3) := by decide +kernel
theorem dX9_init_143 : decode cX9_init 143 = .ok (.aload_n 0, 1) := by decide +kernel
theorem dX9_init_144 : decode cX9_init 144 = .ok (.bipush 64, 2) := by decide +kernel
theorem dX9_init_146 : decode cX9_init 146 = .ok (.newarray .int, 2) := by decide +kernel
theorem dX9_init_148 : decode cX9_init 148 = .ok (.putfield 69, 3) := by decide +kernel
theorem dX9_init_151 : decode cX9_init 151 = .ok (.aload_n 0, 1) := by decide +kernel
theorem dX9_init_152 : decode cX9_init 152 = .ok (.bipush 64, 2) := by decide +kernel
theorem dX9_init_154 : decode cX9_init 154 = .ok (.newarray .int, 2) := by decide +kernel
theorem dX9_init_156 : decode cX9_init 156 = .ok (.putfield 72, 3) := by decide +kernel
theorem dX9_init_159 : decode cX9_init 159 = .ok (.aload_n 0, 1) := by decide +kernel
theorem dX9_init_160 : decode cX9_init 160 = .ok (.bipush 20, 2) := by decide +kernel
theorem dX9_init_162 : decode cX9_init 162 = .ok (.newarray .int, 2) := by decide +kernel
theorem dX9_init_164 : decode cX9_init 164 = .ok (.putfield 75, 3) := by decide +kernel
theorem dX9_init_167 : decode cX9_init 167 = .ok (.aload_n 0, 1) := by decide +kernel
theorem dX9_init_168 : decode cX9_init 168 = .ok (.bipush 124, 2) := by decide +kernel
theorem dX9_init_170 : decode cX9_init 170 = .ok (.newarray .int, 2) := by decide +kernel
theorem dX9_init_172 : decode cX9_init 172 = .ok (.putfield 78, 3) := by decide +kernel
theorem dX9_init_175 : decode cX9_init 175 = .ok (.aload_n 0, 1) := by decide +kernel
theorem dX9_init_176 : decode cX9_init 176 = .ok (.bipush 6, 2) := by decide +kernel
theorem dX9_init_178 : decode cX9_init 178 = .ok (.newarray .int, 2) := by decide +kernel
theorem dX9_init_180 : decode cX9_init 180 = .ok (.putfield 81, 3) := by decide +kernel
theorem dX9_init_183 : decode cX9_init 183 = .ok (.aload_n 0, 1) := by decide +kernel
theorem dX9_init_184 : decode cX9_init 184 = .ok (.bipush 6, 2) := by decide +kernel
theorem dX9_init_186 : decode cX9_init 186 = .ok (.newarray .int, 2) := by decide +kernel
theorem dX9_init_188 : decode cX9_init 188 = .ok (.putfield 84, 3) := by decide +kernel
theorem dX9_init_191 : decode cX9_init 191 = .ok (.aload_n 0, 1) := by decide +kernel
theorem dX9_init_192 : decode cX9_init 192 = .ok (.sipush 360, 3) := by decide +kernel
theorem dX9_init_195 : decode cX9_init 195 = .ok (.newarray .long, 2) := by decide +kernel
theorem dX9_init_197 : decode cX9_init 197 = .ok (.putfield 87, 3) := by decide +kernel
theorem dX9_init_200 : decode cX9_init 200 = .ok (.iconst 0, 1) := by decide +kernel
theorem dX9_init_201 : decode cX9_init 201 = .ok (.istore_n 1, 1) := by decide +kernel
theorem dX9_init_202 : decode cX9_init 202 = .ok (.iload_n 1, 1) := by decide +kernel
theorem dX9_init_203 : decode cX9_init 203 = .ok (.bipush 6, 2) := by decide +kernel
theorem dX9_init_205 : decode cX9_init 205 = .ok (.if_icmp .ge 16, 3) := by decide +kernel
theorem dX9_init_208 : decode cX9_init 208 = .ok (.aload_n 0, 1) := by decide +kernel
theorem dX9_init_209 : decode cX9_init 209 = .ok (.getfield 81, 3) := by decide +kernel
theorem dX9_init_212 : decode cX9_init 212 = .ok (.iload_n 1, 1) := by decide +kernel
theorem dX9_init_213 : decode cX9_init 213 = .ok (.iconst (-1), 1) := by decide +kernel
theorem dX9_init_214 : decode cX9_init 214 = .ok (.iastore, 1) := by decide +kernel
theorem dX9_init_215 : decode cX9_init 215 = .ok (.iinc 1 1, 3) := by decide +kernel
theorem dX9_init_218 : decode cX9_init 218 = .ok (.goto (-16), 3) := by decide +kernel
theorem dX9_init_221 : decode cX9_init 221 = .ok (.return_, 1) := by decide +kernel
theorem dX9_within_0 : decode cX9_within 0 = .ok (.iload_n 0, 1) := by decide +kernel
theorem dX9_within_1 : decode cX9_within 1 = .ok (.iload_n 1, 1) := by decide +kernel
theorem dX9_within_2 : decode cX9_within 2 = .ok (.if_icmp .lt 12, 3) := by decide +kernel
theorem dX9_within_5 : decode cX9_within 5 = .ok (.iload_n 0, 1) := by decide +kernel
theorem dX9_within_6 : decode cX9_within 6 = .ok (.iload_n 2, 1) := by decide +kernel
theorem dX9_within_7 : decode cX9_within 7 = .ok (.if_icmp .gt 7, 3) := by decide +kernel
theorem dX9_within_10 : decode cX9_within 10 = .ok (.iconst 1, 1) := by decide +kernel
theorem dX9_within_11 : decode cX9_within 11 = .ok (.goto 4, 3) := by decide +kernel
theorem dX9_within_14 : decode cX9_within 14 = .ok (.iconst 0, 1) := by decide +kernel
theorem dX9_within_15 : decode cX9_within 15 = .ok (.ireturn, 1) := by decide +kernel
theorem dX9_isPart_0 : decode cX9_isPart 0 = .ok (.iload_n 1, 1) := by decide +kernel
theorem dX9_isPart_1 : decode cX9_isPart 1 = .ok (.iconst 0, 1) := by decide +kernel
theorem dX9_isPart_2 : decode cX9_isPart 2 = .ok (.aload_n 0, 1) := by decide +kernel
theorem dX9_isPart_3 : decode cX9_isPart 3 = .ok (.getfield 90, 3) := by decide +kernel
theorem dX9_isPart_6 : decode cX9_isPart 6 = .ok (.iconst 1, 1) := by decide +kernel
theorem dX9_isPart_7 : decode cX9_isPart 7 = .ok (.isub, 1) := by decide +kernel
theorem dX9_isPart_8 : decode cX9_isPart 8 = .ok (.invokestatic 93, 3) := by decide +kernel
theorem dX9_isPart_11 : decode cX9_isPart 11 = .ok (.ireturn, 1) := by decide +kernel
theorem dX9_isGate_0 : decode cX9_isGate 0 = .ok (.iload_n 1, 1) := by decide +kernel
theorem dX9_isGate_1 : decode cX9_isGate 1 = .ok (.iconst 0, 1) := by decide +kernel
theorem dX9_isGate_2 : decode cX9_isGate 2 = .ok (.aload_n 0, 1) := by decide +kernel
theorem dX9_isGate_3 : decode cX9_isGate 3 = .ok (.getfield 97, 3) := by decide +kernel
theorem dX9_isGate_6 : decode cX9_isGate 6 = .ok (.iconst 1, 1) := by decide +kernel
theorem dX9_isGate_7 : decode cX9_isGate 7 = .ok (.isub, 1) := by decide +kernel
theorem dX9_isGate_8 : decode cX9_isGate 8 = .ok (.invokestatic 93, 3) := by decide +kernel
theorem dX9_isGate_11 : decode cX9_isGate 11 = .ok (.ireturn, 1) := by decide +kernel
theorem dX9_isSet_0 : decode cX9_isSet 0 = .ok (.iload_n 1, 1) := by decide +kernel
theorem dX9_isSet_1 : decode cX9_isSet 1 = .ok (.iconst 0, 1) := by decide +kernel
theorem dX9_isSet_2 : decode cX9_isSet 2 = .ok (.iconst 1, 1) := by decide +kernel
theorem dX9_isSet_3 : decode cX9_isSet 3 = .ok (.aload_n 0, 1) := by decide +kernel
theorem dX9_isSet_4 : decode cX9_isSet 4 = .ok (.getfield 90, 3) := by decide +kernel
theorem dX9_isSet_7 : decode cX9_isSet 7 = .ok (.ishl, 1) := by decide +kernel
theorem dX9_isSet_8 : decode cX9_isSet 8 = .ok (.iconst 1, 1) := by decide +kernel
theorem dX9_isSet_9 : decode cX9_isSet 9 = .ok (.isub, 1) := by decide +kernel
theorem dX9_isSet_10 : decode cX9_isSet 10 = .ok (.invokestatic 93, 3) := by decide +kernel
theorem dX9_isSet_13 : decode cX9_isSet 13 = .ok (.ireturn, 1) := by decide +kernel
theorem dX9_isOdds_0 : decode cX9_isOdds 0 = .ok (.iload_n 0, 1) := by decide +kernel
theorem dX9_isOdds_1 : decode cX9_isOdds 1 = .ok (.iconst 0, 1) := by decide +kernel
theorem dX9_isOdds_2 : decode cX9_isOdds 2 = .ok (.bipush 100, 2) := by decide +kernel
theorem dX9_isOdds_4 : decode cX9_isOdds 4 = .ok (.invokestatic 93, 3) := by decide +kernel
theorem dX9_isOdds_7 : decode cX9_isOdds 7 = .ok (.ireturn, 1) := by decide +kernel
theorem dX9_part_0 : decode cX9_part 0 = .ok (.iload_n 1, 1) := by decide +kernel
theorem dX9_part_1 : decode cX9_part 1 = .ok (.invokestatic 100, 3) := by decide +kernel
theorem dX9_part_4 : decode cX9_part 4 = .ok (.ifCond .ne 6, 3) := by decide +kernel
theorem dX9_part_7 : decode cX9_part 7 = .ok (.bipush (-2), 2) := by decide +kernel
theorem dX9_part_9 : decode cX9_part 9 = .ok (.ireturn, 1) := by decide +kernel
theorem dX9_part_10 : decode cX9_part 10 = .ok (.aload_n 0, 1) := by decide +kernel
theorem dX9_part_11 : decode cX9_part 11 = .ok (.getfield 90, 3) := by decide +kernel
theorem dX9_part_14 : decode cX9_part 14 = .ok (.bipush 6, 2) := by decide +kernel
theorem dX9_part_16 : decode cX9_part 16 = .ok (.if_icmp .ne 6, 3) := by decide +kernel
theorem dX9_part_19 : decode cX9_part 19 = .ok (.bipush (-4), 2) := by decide +kernel
theorem dX9_part_21 : decode cX9_part 21 = .ok (.ireturn, 1) := by decide +kernel
theorem dX9_part_22 : decode cX9_part 22 = .ok (.aload_n 0, 1) := by decide +kernel
theorem dX9_part_23 : decode cX9_part 23 = .ok (.getfield 9, 3) := by decide +kernel
theorem dX9_part_26 : decode cX9_part 26 = .ok (.aload_n 0, 1) := by decide +kernel
theorem dX9_part_27 : decode cX9_part 27 = .ok (.getfield 90, 3) := by decide +kernel
theorem dX9_part_30 : decode cX9_part 30 = .ok (.iload_n 1, 1) := by decide +kernel
theorem dX9_part_31 : decode cX9_part 31 = .ok (.iastore, 1) := by decide +kernel
theorem dX9_part_32 : decode cX9_part 32 = .ok (.aload_n 0, 1) := by decide +kernel
theorem dX9_part_33 : decode cX9_part 33 = .ok (.getfield 15, 3) := by decide +kernel
theorem dX9_part_36 : decode cX9_part 36 = .ok (.aload_n 0, 1) := by decide +kernel
theorem dX9_part_37 : decode cX9_part 37 = .ok (.getfield 90, 3) := by decide +kernel
theorem dX9_part_40 : decode cX9_part 40 = .ok (.aload_n 0, 1) := by decide +kernel
theorem dX9_part_41 : decode cX9_part 41 = .ok (.getfield 90, 3) := by decide +kernel
theorem dX9_part_44 : decode cX9_part 44 = .ok (.iastore, 1) := by decide +kernel
theorem dX9_part_45 : decode cX9_part 45 = .ok (.aload_n 0, 1) := by decide +kernel
theorem dX9_part_46 : decode cX9_part 46 = .ok (.dup, 1) := by decide +kernel
theorem dX9_part_47 : decode cX9_part 47 = .ok (.getfield 90, 3) := by decide +kernel
theorem dX9_part_50 : decode cX9_part 50 = .ok (.iconst 1, 1) := by decide +kernel
theorem dX9_part_51 : decode cX9_part 51 = .ok (.iadd, 1) := by decide +kernel
theorem dX9_part_52 : decode cX9_part 52 = .ok (.putfield 90, 3) := by decide +kernel
theorem dX9_part_55 : decode cX9_part 55 = .ok (.aload_n 0, 1) := by decide +kernel
theorem dX9_part_56 : decode cX9_part 56 = .ok (.getfield 90, 3) := by decide +kernel
theorem dX9_part_59 : decode cX9_part 59 = .ok (.iconst 1, 1) := by decide +kernel
theorem dX9_part_60 : decode cX9_part 60 = .ok (.isub, 1) := by decide +kernel
theorem dX9_part_61 : decode cX9_part 61 = .ok (.ireturn, 1) := by decide +kernel
theorem dX9_isKind_0 : decode cX9_isKind 0 = .ok (.iload_n 0, 1) := by decide +kernel
theorem dX9_isKind_1 : decode cX9_isKind 1 = .ok (.iconst 0, 1) := by decide +kernel
theorem dX9_isKind_2 : decode cX9_isKind 2 = .ok (.iconst 2, 1) := by decide +kernel
theorem dX9_isKind_3 : decode cX9_isKind 3 = .ok (.invokestatic 93, 3) := by decide +kernel
theorem dX9_isKind_6 : decode cX9_isKind 6 = .ok (.ifCond .eq 16, 3) := by decide +kernel
theorem dX9_isKind_9 : decode cX9_isKind 9 = .ok (.iload_n 1, 1) := by decide +kernel
theorem dX9_isKind_10 : decode cX9_isKind 10 = .ok (.iconst 0, 1) := by decide +kernel
theorem dX9_isKind_11 : decode cX9_isKind 11 = .ok (.iconst 5, 1) := by decide +kernel
theorem dX9_isKind_12 : decode cX9_isKind 12 = .ok (.invokestatic 93, 3) := by decide +kernel
theorem dX9_isKind_15 : decode cX9_isKind 15 = .ok (.ifCond .eq 7, 3) := by decide +kernel
theorem dX9_isKind_18 : decode cX9_isKind 18 = .ok (.iconst 1, 1) := by decide +kernel
theorem dX9_isKind_19 : decode cX9_isKind 19 = .ok (.goto 4, 3) := by decide +kernel
theorem dX9_isKind_22 : decode cX9_isKind 22 = .ok (.iconst 0, 1) := by decide +kernel
theorem dX9_isKind_23 : decode cX9_isKind 23 = .ok (.ireturn, 1) := by decide +kernel
theorem dX9_gate_0 : decode cX9_gate 0 = .ok (.iload_n 1, 1) := by decide +kernel
theorem dX9_gate_1 : decode cX9_gate 1 = .ok (.iload_n 2, 1) := by decide +kernel
theorem dX9_gate_2 : decode cX9_gate 2 = .ok (.invokestatic 104, 3) := by decide +kernel
theorem dX9_gate_5 : decode cX9_gate 5 = .ok (.ifCond .ne 6, 3) := by decide +kernel
theorem dX9_gate_8 : decode cX9_gate 8 = .ok (.bipush (-2), 2) := by decide +kernel
theorem dX9_gate_10 : decode cX9_gate 10 = .ok (.ireturn, 1) := by decide +kernel
theorem dX9_gate_11 : decode cX9_gate 11 = .ok (.aload_n 0, 1) := by decide +kernel
theorem dX9_gate_12 : decode cX9_gate 12 = .ok (.getfield 97, 3) := by decide +kernel
theorem dX9_gate_15 : decode cX9_gate 15 = .ok (.bipush 8, 2) := by decide +kernel
theorem dX9_gate_17 : decode cX9_gate 17 = .ok (.if_icmp .ne 6, 3) := by decide +kernel
theorem dX9_gate_20 : decode cX9_gate 20 = .ok (.bipush (-4), 2) := by decide +kernel
theorem dX9_gate_22 : decode cX9_gate 22 = .ok (.ireturn, 1) := by decide +kernel
theorem dX9_gate_23 : decode cX9_gate 23 = .ok (.aload_n 0, 1) := by decide +kernel
theorem dX9_gate_24 : decode cX9_gate 24 = .ok (.getfield 18, 3) := by decide +kernel
theorem dX9_gate_27 : decode cX9_gate 27 = .ok (.aload_n 0, 1) := by decide +kernel
theorem dX9_gate_28 : decode cX9_gate 28 = .ok (.getfield 97, 3) := by decide +kernel
theorem dX9_gate_31 : decode cX9_gate 31 = .ok (.iload_n 1, 1) := by decide +kernel
theorem dX9_gate_32 : decode cX9_gate 32 = .ok (.iastore, 1) := by decide +kernel
theorem dX9_gate_33 : decode cX9_gate 33 = .ok (.aload_n 0, 1) := by decide +kernel
theorem dX9_gate_34 : decode cX9_gate 34 = .ok (.getfield 21, 3) := by decide +kernel
theorem dX9_gate_37 : decode cX9_gate 37 = .ok (.aload_n 0, 1) := by decide +kernel
theorem dX9_gate_38 : decode cX9_gate 38 = .ok (.getfield 97, 3) := by decide +kernel
theorem dX9_gate_41 : decode cX9_gate 41 = .ok (.iload_n 2, 1) := by decide +kernel
theorem dX9_gate_42 : decode cX9_gate 42 = .ok (.iastore, 1) := by decide +kernel
theorem dX9_gate_43 : decode cX9_gate 43 = .ok (.aload_n 0, 1) := by decide +kernel
theorem dX9_gate_44 : decode cX9_gate 44 = .ok (.getfield 24, 3) := by decide +kernel
theorem dX9_gate_47 : decode cX9_gate 47 = .ok (.aload_n 0, 1) := by decide +kernel
theorem dX9_gate_48 : decode cX9_gate 48 = .ok (.getfield 97, 3) := by decide +kernel
theorem dX9_gate_51 : decode cX9_gate 51 = .ok (.iconst 0, 1) := by decide +kernel
theorem dX9_gate_52 : decode cX9_gate 52 = .ok (.iastore, 1) := by decide +kernel
theorem dX9_gate_53 : decode cX9_gate 53 = .ok (.aload_n 0, 1) := by decide +kernel
theorem dX9_gate_54 : decode cX9_gate 54 = .ok (.dup, 1) := by decide +kernel
theorem dX9_gate_55 : decode cX9_gate 55 = .ok (.getfield 97, 3) := by decide +kernel
theorem dX9_gate_58 : decode cX9_gate 58 = .ok (.iconst 1, 1) := by decide +kernel
theorem dX9_gate_59 : decode cX9_gate 59 = .ok (.iadd, 1) := by decide +kernel
theorem dX9_gate_60 : decode cX9_gate 60 = .ok (.putfield 97, 3) := by decide +kernel
theorem dX9_gate_63 : decode cX9_gate 63 = .ok (.aload_n 0, 1) := by decide +kernel
theorem dX9_gate_64 : decode cX9_gate 64 = .ok (.getfield 97, 3) := by decide +kernel
theorem dX9_gate_67 : decode cX9_gate 67 = .ok (.iconst 1, 1) := by decide +kernel
theorem dX9_gate_68 : decode cX9_gate 68 = .ok (.isub, 1) := by decide +kernel
theorem dX9_gate_69 : decode cX9_gate 69 = .ok (.ireturn, 1) := by decide +kernel
theorem dX9_turn_0 : decode cX9_turn 0 = .ok (.aload_n 0, 1) := by decide +kernel
theorem dX9_turn_1 : decode cX9_turn 1 = .ok (.iload_n 1, 1) := by decide +kernel
theorem dX9_turn_2 : decode cX9_turn 2 = .ok (.invokevirtual 108, 3) := by decide +kernel
theorem dX9_turn_5 : decode cX9_turn 5 = .ok (.ifCond .ne 5, 3) := by decide +kernel
theorem dX9_turn_8 : decode cX9_turn 8 = .ok (.iconst (-1), 1) := by decide +kernel
theorem dX9_turn_9 : decode cX9_turn 9 = .ok (.ireturn, 1) := by decide +kernel
theorem dX9_turn_10 : decode cX9_turn 10 = .ok (.iload_n 2, 1) := by decide +kernel
theorem dX9_turn_11 : decode cX9_turn 11 = .ok (.iload_n 3, 1) := by decide +kernel
theorem dX9_turn_12 : decode cX9_turn 12 = .ok (.invokestatic 104, 3) := by decide +kernel
theorem dX9_turn_15 : decode cX9_turn 15 = .ok (.ifCond .ne 6, 3) := by decide +kernel
theorem dX9_turn_18 : decode cX9_turn 18 = .ok (.bipush (-2), 2) := by decide +kernel
theorem dX9_turn_20 : decode cX9_turn 20 = .ok (.ireturn, 1) := by decide +kernel
theorem dX9_turn_21 : decode cX9_turn 21 = .ok (.bipush 10, 2) := by decide +kernel
theorem dX9_turn_23 : decode cX9_turn 23 = .ok (.aload_n 0, 1) := by decide +kernel
theorem dX9_turn_24 : decode cX9_turn 24 = .ok (.getfield 18, 3) := by decide +kernel
theorem dX9_turn_27 : decode cX9_turn 27 = .ok (.iload_n 1, 1) := by decide +kernel
theorem dX9_turn_28 : decode cX9_turn 28 = .ok (.iaload, 1) := by decide +kernel
theorem dX9_turn_29 : decode cX9_turn 29 = .ok (.imul, 1) := by decide +kernel
theorem dX9_turn_30 : decode cX9_turn 30 = .ok (.aload_n 0, 1) := by decide +kernel
theorem dX9_turn_31 : decode cX9_turn 31 = .ok (.getfield 21, 3) := by decide +kernel
theorem dX9_turn_34 : decode cX9_turn 34 = .ok (.iload_n 1, 1) := by decide +kernel
theorem dX9_turn_35 : decode cX9_turn 35 = .ok (.iaload, 1) := by decide +kernel
theorem dX9_turn_36 : decode cX9_turn 36 = .ok (.iadd, 1) := by decide +kernel
theorem dX9_turn_37 : decode cX9_turn 37 = .ok (.istore 4, 2) := by decide +kernel
theorem dX9_turn_39 : decode cX9_turn 39 = .ok (.aload_n 0, 1) := by decide +kernel
theorem dX9_turn_40 : decode cX9_turn 40 = .ok (.getfield 18, 3) := by decide +kernel
theorem dX9_turn_43 : decode cX9_turn 43 = .ok (.iload_n 1, 1) := by decide +kernel
theorem dX9_turn_44 : decode cX9_turn 44 = .ok (.iload_n 2, 1) := by decide +kernel
theorem dX9_turn_45 : decode cX9_turn 45 = .ok (.iastore, 1) := by decide +kernel
theorem dX9_turn_46 : decode cX9_turn 46 = .ok (.aload_n 0, 1) := by decide +kernel
theorem dX9_turn_47 : decode cX9_turn 47 = .ok (.getfield 21, 3) := by decide +kernel
theorem dX9_turn_50 : decode cX9_turn 50 = .ok (.iload_n 1, 1) := by decide +kernel
theorem dX9_turn_51 : decode cX9_turn 51 = .ok (.iload_n 3, 1) := by decide +kernel
theorem dX9_turn_52 : decode cX9_turn 52 = .ok (.iastore, 1) := by decide +kernel
theorem dX9_turn_53 : decode cX9_turn 53 = .ok (.iload 4, 2) := by decide +kernel
theorem dX9_turn_55 : decode cX9_turn 55 = .ok (.ireturn, 1) := by decide +kernel
theorem dX9_join_0 : decode cX9_join 0 = .ok (.aload_n 0, 1) := by decide +kernel
theorem dX9_join_1 : decode cX9_join 1 = .ok (.iload_n 1, 1) := by decide +kernel
theorem dX9_join_2 : decode cX9_join 2 = .ok (.invokevirtual 108, 3) := by decide +kernel
theorem dX9_join_5 : decode cX9_join 5 = .ok (.ifCond .eq 26, 3) := by decide +kernel
theorem dX9_join_8 : decode cX9_join 8 = .ok (.iload_n 2, 1) := by decide +kernel
theorem dX9_join_9 : decode cX9_join 9 = .ok (.ifCond .eq 14, 3) := by decide +kernel
theorem dX9_join_12 : decode cX9_join 12 = .ok (.aload_n 0, 1) := by decide +kernel
theorem dX9_join_13 : decode cX9_join 13 = .ok (.iload_n 3, 1) := by decide +kernel
theorem dX9_join_14 : decode cX9_join 14 = .ok (.invokevirtual 111, 3) := by decide +kernel
theorem dX9_join_17 : decode cX9_join 17 = .ok (.ifCond .ne 16, 3) := by decide +kernel
theorem dX9_join_20 : decode cX9_join 20 = .ok (.goto 11, 3) := by decide +kernel
theorem dX9_join_23 : decode cX9_join 23 = .ok (.aload_n 0, 1) := by decide +kernel
theorem dX9_join_24 : decode cX9_join 24 = .ok (.iload_n 3, 1) := by decide +kernel
theorem dX9_join_25 : decode cX9_join 25 = .ok (.invokevirtual 108, 3) := by decide +kernel
theorem dX9_join_28 : decode cX9_join 28 = .ok (.ifCond .ne 5, 3) := by decide +kernel
theorem dX9_join_31 : decode cX9_join 31 = .ok (.iconst (-1), 1) := by decide +kernel
theorem dX9_join_32 : decode cX9_join 32 = .ok (.ireturn, 1) := by decide +kernel
theorem dX9_join_33 : decode cX9_join 33 = .ok (.iload_n 2, 1) := by decide +kernel
theorem dX9_join_34 : decode cX9_join 34 = .ok (.ifCond .ne 11, 3) := by decide +kernel
theorem dX9_join_37 : decode cX9_join 37 = .ok (.iload_n 3, 1) := by decide +kernel
theorem dX9_join_38 : decode cX9_join 38 = .ok (.iload_n 1, 1) := by decide +kernel
theorem dX9_join_39 : decode cX9_join 39 = .ok (.if_icmp .lt 6, 3) := by decide +kernel
theorem dX9_join_42 : decode cX9_join 42 = .ok (.bipush (-3), 2) := by decide +kernel
theorem dX9_join_44 : decode cX9_join 44 = .ok (.ireturn, 1) := by decide +kernel
theorem dX9_join_45 : decode cX9_join 45 = .ok (.aload_n 0, 1) := by decide +kernel
theorem dX9_join_46 : decode cX9_join 46 = .ok (.getfield 24, 3) := by decide +kernel
theorem dX9_join_49 : decode cX9_join 49 = .ok (.iload_n 1, 1) := by decide +kernel
theorem dX9_join_50 : decode cX9_join 50 = .ok (.iaload, 1) := by decide +kernel
theorem dX9_join_51 : decode cX9_join 51 = .ok (.iconst 4, 1) := by decide +kernel
theorem dX9_join_52 : decode cX9_join 52 = .ok (.if_icmp .ne 6, 3) := by decide +kernel
theorem dX9_join_55 : decode cX9_join 55 = .ok (.bipush (-4), 2) := by decide +kernel
theorem dX9_join_57 : decode cX9_join 57 = .ok (.ireturn, 1) := by decide +kernel
theorem dX9_join_58 : decode cX9_join 58 = .ok (.aload_n 0, 1) := by decide +kernel
theorem dX9_join_59 : decode cX9_join 59 = .ok (.getfield 27, 3) := by decide +kernel
theorem dX9_join_62 : decode cX9_join 62 = .ok (.iconst 4, 1) := by decide +kernel
theorem dX9_join_63 : decode cX9_join 63 = .ok (.iload_n 1, 1) := by decide +kernel
theorem dX9_join_64 : decode cX9_join 64 = .ok (.imul, 1) := by decide +kernel
theorem dX9_join_65 : decode cX9_join 65 = .ok (.aload_n 0, 1) := by decide +kernel
theorem dX9_join_66 : decode cX9_join 66 = .ok (.getfield 24, 3) := by decide +kernel
theorem dX9_join_69 : decode cX9_join 69 = .ok (.iload_n 1, 1) := by decide +kernel
theorem dX9_join_70 : decode cX9_join 70 = .ok (.iaload, 1) := by decide +kernel
theorem dX9_join_71 : decode cX9_join 71 = .ok (.iadd, 1) := by decide +kernel
theorem dX9_join_72 : decode cX9_join 72 = .ok (.iload_n 2, 1) := by decide +kernel
theorem dX9_join_73 : decode cX9_join 73 = .ok (.ifCond .eq 7, 3) := by decide +kernel
theorem dX9_join_76 : decode cX9_join 76 = .ok (.iload_n 3, 1) := by decide +kernel
theorem dX9_join_77 : decode cX9_join 77 = .ok (.goto 7, 3) := by decide +kernel
theorem dX9_join_80 : decode cX9_join 80 = .ok (.bipush 10, 2) := by decide +kernel
theorem dX9_join_82 : decode cX9_join 82 = .ok (.iload_n 3, 1) := by decide +kernel
theorem dX9_join_83 : decode cX9_join 83 = .ok (.iadd, 1) := by decide +kernel
theorem dX9_join_84 : decode cX9_join 84 = .ok (.iastore, 1) := by decide +kernel
theorem dX9_join_85 : decode cX9_join 85 = .ok (.aload_n 0, 1) := by decide +kernel
theorem dX9_join_86 : decode cX9_join 86 = .ok (.getfield 24, 3) := by decide +kernel
theorem dX9_join_89 : decode cX9_join 89 = .ok (.iload_n 1, 1) := by decide +kernel
theorem dX9_join_90 : decode cX9_join 90 = .ok (.dup2, 1) := by decide +kernel
theorem dX9_join_91 : decode cX9_join 91 = .ok (.iaload, 1) := by decide +kernel
theorem dX9_join_92 : decode cX9_join 92 = .ok (.iconst 1, 1) := by decide +kernel
theorem dX9_join_93 : decode cX9_join 93 = .ok (.iadd, 1) := by decide +kernel
theorem dX9_join_94 : decode cX9_join 94 = .ok (.iastore, 1) := by decide +kernel
theorem dX9_join_95 : decode cX9_join 95 = .ok (.aload_n 0, 1) := by decide +kernel
theorem dX9_join_96 : decode cX9_join 96 = .ok (.getfield 24, 3) := by decide +kernel
theorem dX9_join_99 : decode cX9_join 99 = .ok (.iload_n 1, 1) := by decide +kernel
theorem dX9_join_100 : decode cX9_join 100 = .ok (.iaload, 1) := by decide +kernel
theorem dX9_join_101 : decode cX9_join 101 = .ok (.ireturn, 1) := by decide +kernel
theorem dX9_drop_0 : decode cX9_drop 0 = .ok (.aload_n 0, 1) := by decide +kernel
theorem dX9_drop_1 : decode cX9_drop 1 = .ok (.iload_n 1, 1) := by decide +kernel
theorem dX9_drop_2 : decode cX9_drop 2 = .ok (.invokevirtual 108, 3) := by decide +kernel
theorem dX9_drop_5 : decode cX9_drop 5 = .ok (.ifCond .ne 5, 3) := by decide +kernel
theorem dX9_drop_8 : decode cX9_drop 8 = .ok (.iconst (-1), 1) := by decide +kernel
theorem dX9_drop_9 : decode cX9_drop 9 = .ok (.ireturn, 1) := by decide +kernel
theorem dX9_drop_10 : decode cX9_drop 10 = .ok (.aload_n 0, 1) := by decide +kernel
theorem dX9_drop_11 : decode cX9_drop 11 = .ok (.getfield 24, 3) := by decide +kernel
theorem dX9_drop_14 : decode cX9_drop 14 = .ok (.iload_n 1, 1) := by decide +kernel
theorem dX9_drop_15 : decode cX9_drop 15 = .ok (.iaload, 1) := by decide +kernel
theorem dX9_drop_16 : decode cX9_drop 16 = .ok (.ifCond .ne 6, 3) := by decide +kernel
theorem dX9_drop_19 : decode cX9_drop 19 = .ok (.bipush (-3), 2) := by decide +kernel
theorem dX9_drop_21 : decode cX9_drop 21 = .ok (.ireturn, 1) := by decide +kernel
theorem dX9_drop_22 : decode cX9_drop 22 = .ok (.aload_n 0, 1) := by decide +kernel
theorem dX9_drop_23 : decode cX9_drop 23 = .ok (.getfield 24, 3) := by decide +kernel
theorem dX9_drop_26 : decode cX9_drop 26 = .ok (.iload_n 1, 1) := by decide +kernel
theorem dX9_drop_27 : decode cX9_drop 27 = .ok (.dup2, 1) := by decide +kernel
theorem dX9_drop_28 : decode cX9_drop 28 = .ok (.iaload, 1) := by decide +kernel
theorem dX9_drop_29 : decode cX9_drop 29 = .ok (.iconst 1, 1) := by decide +kernel
theorem dX9_drop_30 : decode cX9_drop 30 = .ok (.isub, 1) := by decide +kernel
theorem dX9_drop_31 : decode cX9_drop 31 = .ok (.iastore, 1) := by decide +kernel
theorem dX9_drop_32 : decode cX9_drop 32 = .ok (.aload_n 0, 1) := by decide +kernel
theorem dX9_drop_33 : decode cX9_drop 33 = .ok (.getfield 24, 3) := by decide +kernel
theorem dX9_drop_36 : decode cX9_drop 36 = .ok (.iload_n 1, 1) := by decide +kernel
theorem dX9_drop_37 : decode cX9_drop 37 = .ok (.iaload, 1) := by decide +kernel
theorem dX9_drop_38 : decode cX9_drop 38 = .ok (.ireturn, 1) := by decide +kernel
theorem dX9_topmost_0 : decode cX9_topmost 0 = .ok (.aload_n 0, 1) := by decide +kernel
theorem dX9_topmost_1 : decode cX9_topmost 1 = .ok (.getfield 97, 3) := by decide +kernel
theorem dX9_topmost_4 : decode cX9_topmost 4 = .ok (.ifCond .ne 8, 3) := by decide +kernel
theorem dX9_topmost_7 : decode cX9_topmost 7 = .ok (.bipush (-5), 2) := by decide +kernel
theorem dX9_topmost_9 : decode cX9_topmost 9 = .ok (.goto 24, 3) := by decide +kernel
theorem dX9_topmost_12 : decode cX9_topmost 12 = .ok (.aload_n 0, 1) := by decide +kernel
theorem dX9_topmost_13 : decode cX9_topmost 13 = .ok (.getfield 30, 3) := by decide +kernel
theorem dX9_topmost_16 : decode cX9_topmost 16 = .ok (.iconst (-1), 1) := by decide +kernel
theorem dX9_topmost_17 : decode cX9_topmost 17 = .ok (.if_icmp .ne 12, 3) := by decide +kernel
theorem dX9_topmost_20 : decode cX9_topmost 20 = .ok (.aload_n 0, 1) := by decide +kernel
theorem dX9_topmost_21 : decode cX9_topmost 21 = .ok (.getfield 97, 3) := by decide +kernel
theorem dX9_topmost_24 : decode cX9_topmost 24 = .ok (.iconst 1, 1) := by decide +kernel
theorem dX9_topmost_25 : decode cX9_topmost 25 = .ok (.isub, 1) := by decide +kernel
theorem dX9_topmost_26 : decode cX9_topmost 26 = .ok (.goto 7, 3) := by decide +kernel
theorem dX9_topmost_29 : decode cX9_topmost 29 = .ok (.aload_n 0, 1) := by decide +kernel
theorem dX9_topmost_30 : decode cX9_topmost 30 = .ok (.getfield 30, 3) := by decide +kernel
theorem dX9_topmost_33 : decode cX9_topmost 33 = .ok (.ireturn, 1) := by decide +kernel
theorem dX9_top_0 : decode cX9_top 0 = .ok (.iload_n 1, 1) := by decide +kernel
theorem dX9_top_1 : decode cX9_top 1 = .ok (.iconst (-1), 1) := by decide +kernel
theorem dX9_top_2 : decode cX9_top 2 = .ok (.if_icmp .eq 13, 3) := by decide +kernel
theorem dX9_top_5 : decode cX9_top 5 = .ok (.aload_n 0, 1) := by decide +kernel
theorem dX9_top_6 : decode cX9_top 6 = .ok (.iload_n 1, 1) := by decide +kernel
theorem dX9_top_7 : decode cX9_top 7 = .ok (.invokevirtual 108, 3) := by decide +kernel
theorem dX9_top_10 : decode cX9_top 10 = .ok (.ifCond .ne 5, 3) := by decide +kernel
theorem dX9_top_13 : decode cX9_top 13 = .ok (.iconst (-1), 1) := by decide +kernel
theorem dX9_top_14 : decode cX9_top 14 = .ok (.ireturn, 1) := by decide +kernel
theorem dX9_top_15 : decode cX9_top 15 = .ok (.aload_n 0, 1) := by decide +kernel
theorem dX9_top_16 : decode cX9_top 16 = .ok (.invokevirtual 114, 3) := by decide +kernel
theorem dX9_top_19 : decode cX9_top 19 = .ok (.istore_n 2, 1) := by decide +kernel
theorem dX9_top_20 : decode cX9_top 20 = .ok (.aload_n 0, 1) := by decide +kernel
theorem dX9_top_21 : decode cX9_top 21 = .ok (.iload_n 1, 1) := by decide +kernel
theorem dX9_top_22 : decode cX9_top 22 = .ok (.putfield 30, 3) := by decide +kernel
theorem dX9_top_25 : decode cX9_top 25 = .ok (.iload_n 2, 1) := by decide +kernel
theorem dX9_top_26 : decode cX9_top 26 = .ok (.ireturn, 1) := by decide +kernel
theorem dX9_cause_0 : decode cX9_cause 0 = .ok (.iload_n 1, 1) := by decide +kernel
theorem dX9_cause_1 : decode cX9_cause 1 = .ok (.invokestatic 100, 3) := by decide +kernel
theorem dX9_cause_4 : decode cX9_cause 4 = .ok (.ifCond .eq 11, 3) := by decide +kernel
theorem dX9_cause_7 : decode cX9_cause 7 = .ok (.aload_n 0, 1) := by decide +kernel
theorem dX9_cause_8 : decode cX9_cause 8 = .ok (.iload_n 2, 1) := by decide +kernel
theorem dX9_cause_9 : decode cX9_cause 9 = .ok (.invokevirtual 118, 3) := by decide +kernel
theorem dX9_cause_12 : decode cX9_cause 12 = .ok (.ifCond .ne 6, 3) := by decide +kernel
theorem dX9_cause_15 : decode cX9_cause 15 = .ok (.bipush (-2), 2) := by decide +kernel
theorem dX9_cause_17 : decode cX9_cause 17 = .ok (.ireturn, 1) := by decide +kernel
theorem dX9_cause_18 : decode cX9_cause 18 = .ok (.aload_n 0, 1) := by decide +kernel
theorem dX9_cause_19 : decode cX9_cause 19 = .ok (.getfield 121, 3) := by decide +kernel
theorem dX9_cause_22 : decode cX9_cause 22 = .ok (.iconst 3, 1) := by decide +kernel
theorem dX9_cause_23 : decode cX9_cause 23 = .ok (.if_icmp .ne 6, 3) := by decide +kernel
theorem dX9_cause_26 : decode cX9_cause 26 = .ok (.bipush (-4), 2) := by decide +kernel
theorem dX9_cause_28 : decode cX9_cause 28 = .ok (.ireturn, 1) := by decide +kernel
theorem dX9_cause_29 : decode cX9_cause 29 = .ok (.aload_n 0, 1) := by decide +kernel
theorem dX9_cause_30 : decode cX9_cause 30 = .ok (.getfield 34, 3) := by decide +kernel
theorem dX9_cause_33 : decode cX9_cause 33 = .ok (.aload_n 0, 1) := by decide +kernel
theorem dX9_cause_34 : decode cX9_cause 34 = .ok (.getfield 121, 3) := by decide +kernel
theorem dX9_cause_37 : decode cX9_cause 37 = .ok (.iload_n 1, 1) := by decide +kernel
theorem dX9_cause_38 : decode cX9_cause 38 = .ok (.iastore, 1) := by decide +kernel
theorem dX9_cause_39 : decode cX9_cause 39 = .ok (.aload_n 0, 1) := by decide +kernel
theorem dX9_cause_40 : decode cX9_cause 40 = .ok (.getfield 37, 3) := by decide +kernel
theorem dX9_cause_43 : decode cX9_cause 43 = .ok (.aload_n 0, 1) := by decide +kernel
theorem dX9_cause_44 : decode cX9_cause 44 = .ok (.getfield 121, 3) := by decide +kernel
theorem dX9_cause_47 : decode cX9_cause 47 = .ok (.iload_n 2, 1) := by decide +kernel
theorem dX9_cause_48 : decode cX9_cause 48 = .ok (.iastore, 1) := by decide +kernel
theorem dX9_cause_49 : decode cX9_cause 49 = .ok (.aload_n 0, 1) := by decide +kernel
theorem dX9_cause_50 : decode cX9_cause 50 = .ok (.dup, 1) := by decide +kernel
theorem dX9_cause_51 : decode cX9_cause 51 = .ok (.getfield 121, 3) := by decide +kernel
theorem dX9_cause_54 : decode cX9_cause 54 = .ok (.iconst 1, 1) := by decide +kernel
theorem dX9_cause_55 : decode cX9_cause 55 = .ok (.iadd, 1) := by decide +kernel
theorem dX9_cause_56 : decode cX9_cause 56 = .ok (.putfield 121, 3) := by decide +kernel
theorem dX9_cause_59 : decode cX9_cause 59 = .ok (.aload_n 0, 1) := by decide +kernel
theorem dX9_cause_60 : decode cX9_cause 60 = .ok (.getfield 121, 3) := by decide +kernel
theorem dX9_cause_63 : decode cX9_cause 63 = .ok (.iconst 1, 1) := by decide +kernel
theorem dX9_cause_64 : decode cX9_cause 64 = .ok (.isub, 1) := by decide +kernel
theorem dX9_cause_65 : decode cX9_cause 65 = .ok (.ireturn, 1) := by decide +kernel
theorem dX9_odds_0 : decode cX9_odds 0 = .ok (.iload_n 1, 1) := by decide +kernel
theorem dX9_odds_1 : decode cX9_odds 1 = .ok (.iconst 0, 1) := by decide +kernel
theorem dX9_odds_2 : decode cX9_odds 2 = .ok (.iconst 1, 1) := by decide +kernel
theorem dX9_odds_3 : decode cX9_odds 3 = .ok (.invokestatic 93, 3) := by decide +kernel
theorem dX9_odds_6 : decode cX9_odds 6 = .ok (.ifCond .eq 28, 3) := by decide +kernel
theorem dX9_odds_9 : decode cX9_odds 9 = .ok (.iload_n 2, 1) := by decide +kernel
theorem dX9_odds_10 : decode cX9_odds 10 = .ok (.iconst 0, 1) := by decide +kernel
theorem dX9_odds_11 : decode cX9_odds 11 = .ok (.iload_n 1, 1) := by decide +kernel
theorem dX9_odds_12 : decode cX9_odds 12 = .ok (.ifCond .ne 10, 3) := by decide +kernel
theorem dX9_odds_15 : decode cX9_odds 15 = .ok (.aload_n 0, 1) := by decide +kernel
theorem dX9_odds_16 : decode cX9_odds 16 = .ok (.getfield 90, 3) := by decide +kernel
theorem dX9_odds_19 : decode cX9_odds 19 = .ok (.goto 7, 3) := by decide +kernel
theorem dX9_odds_22 : decode cX9_odds 22 = .ok (.aload_n 0, 1) := by decide +kernel
theorem dX9_odds_23 : decode cX9_odds 23 = .ok (.getfield 121, 3) := by decide +kernel
theorem dX9_odds_26 : decode cX9_odds 26 = .ok (.iconst 1, 1) := by decide +kernel
theorem dX9_odds_27 : decode cX9_odds 27 = .ok (.isub, 1) := by decide +kernel
theorem dX9_odds_28 : decode cX9_odds 28 = .ok (.invokestatic 93, 3) := by decide +kernel
theorem dX9_odds_31 : decode cX9_odds 31 = .ok (.ifCond .ne 5, 3) := by decide +kernel
theorem dX9_odds_34 : decode cX9_odds 34 = .ok (.iconst (-1), 1) := by decide +kernel
theorem dX9_odds_35 : decode cX9_odds 35 = .ok (.ireturn, 1) := by decide +kernel
theorem dX9_odds_36 : decode cX9_odds 36 = .ok (.iload_n 3, 1) := by decide +kernel
theorem dX9_odds_37 : decode cX9_odds 37 = .ok (.invokestatic 100, 3) := by decide +kernel
theorem dX9_odds_40 : decode cX9_odds 40 = .ok (.ifCond .ne 6, 3) := by decide +kernel
theorem dX9_odds_43 : decode cX9_odds 43 = .ok (.bipush (-2), 2) := by decide +kernel
theorem dX9_odds_45 : decode cX9_odds 45 = .ok (.ireturn, 1) := by decide +kernel
theorem dX9_odds_46 : decode cX9_odds 46 = .ok (.iload_n 1, 1) := by decide +kernel
theorem dX9_odds_47 : decode cX9_odds 47 = .ok (.ifCond .ne 12, 3) := by decide +kernel
theorem dX9_odds_50 : decode cX9_odds 50 = .ok (.aload_n 0, 1) := by decide +kernel
theorem dX9_odds_51 : decode cX9_odds 51 = .ok (.getfield 9, 3) := by decide +kernel
theorem dX9_odds_54 : decode cX9_odds 54 = .ok (.iload_n 2, 1) := by decide +kernel
theorem dX9_odds_55 : decode cX9_odds 55 = .ok (.iaload, 1) := by decide +kernel
theorem dX9_odds_56 : decode cX9_odds 56 = .ok (.goto 9, 3) := by decide +kernel
theorem dX9_odds_59 : decode cX9_odds 59 = .ok (.aload_n 0, 1) := by decide +kernel
theorem dX9_odds_60 : decode cX9_odds 60 = .ok (.getfield 34, 3) := by decide +kernel
theorem dX9_odds_63 : decode cX9_odds 63 = .ok (.iload_n 2, 1) := by decide +kernel
theorem dX9_odds_64 : decode cX9_odds 64 = .ok (.iaload, 1) := by decide +kernel
theorem dX9_odds_65 : decode cX9_odds 65 = .ok (.istore 4, 2) := by decide +kernel
theorem dX9_odds_67 : decode cX9_odds 67 = .ok (.iload_n 1, 1) := by decide +kernel
theorem dX9_odds_68 : decode cX9_odds 68 = .ok (.ifCond .ne 13, 3) := by decide +kernel
theorem dX9_odds_71 : decode cX9_odds 71 = .ok (.aload_n 0, 1) := by decide +kernel
theorem dX9_odds_72 : decode cX9_odds 72 = .ok (.getfield 9, 3) := by decide +kernel
theorem dX9_odds_75 : decode cX9_odds 75 = .ok (.iload_n 2, 1) := by decide +kernel
theorem dX9_odds_76 : decode cX9_odds 76 = .ok (.iload_n 3, 1) := by decide +kernel
theorem dX9_odds_77 : decode cX9_odds 77 = .ok (.iastore, 1) := by decide +kernel
theorem dX9_odds_78 : decode cX9_odds 78 = .ok (.goto 10, 3) := by decide +kernel
theorem dX9_odds_81 : decode cX9_odds 81 = .ok (.aload_n 0, 1) := by decide +kernel
theorem dX9_odds_82 : decode cX9_odds 82 = .ok (.getfield 34, 3) := by decide +kernel
theorem dX9_odds_85 : decode cX9_odds 85 = .ok (.iload_n 2, 1) := by decide +kernel
theorem dX9_odds_86 : decode cX9_odds 86 = .ok (.iload_n 3, 1) := by decide +kernel
theorem dX9_odds_87 : decode cX9_odds 87 = .ok (.iastore, 1) := by decide +kernel
theorem dX9_odds_88 : decode cX9_odds 88 = .ok (.iload 4, 2) := by decide +kernel
theorem dX9_odds_90 : decode cX9_odds 90 = .ok (.ireturn, 1) := by decide +kernel
theorem dX9_placeOf_0 : decode cX9_placeOf 0 = .ok (.iconst 0, 1) := by decide +kernel
theorem dX9_placeOf_1 : decode cX9_placeOf 1 = .ok (.istore_n 2, 1) := by decide +kernel
theorem dX9_placeOf_2 : decode cX9_placeOf 2 = .ok (.aload_n 0, 1) := by decide +kernel
theorem dX9_placeOf_3 : decode cX9_placeOf 3 = .ok (.getfield 15, 3) := by decide +kernel
theorem dX9_placeOf_6 : decode cX9_placeOf 6 = .ok (.iload_n 2, 1) := by decide +kernel
theorem dX9_placeOf_7 : decode cX9_placeOf 7 = .ok (.iaload, 1) := by decide +kernel
theorem dX9_placeOf_8 : decode cX9_placeOf 8 = .ok (.iload_n 1, 1) := by decide +kernel
theorem dX9_placeOf_9 : decode cX9_placeOf 9 = .ok (.if_icmp .eq 9, 3) := by decide +kernel
theorem dX9_placeOf_12 : decode cX9_placeOf 12 = .ok (.iinc 2 1, 3) := by decide +kernel
theorem dX9_placeOf_15 : decode cX9_placeOf 15 = .ok (.goto (-13), 3) := by decide +kernel
theorem dX9_placeOf_18 : decode cX9_placeOf 18 = .ok (.iload_n 2, 1) := by decide +kernel
theorem dX9_placeOf_19 : decode cX9_placeOf 19 = .ok (.ireturn, 1) := by decide +kernel
theorem dX9_ofGate_0 : decode cX9_ofGate 0 = .ok (.iload_n 2, 1) := by decide +kernel
theorem dX9_ofGate_1 : decode cX9_ofGate 1 = .ok (.tableswitch 48 0 2 #[27, 34, 41], 27) := by decide +kernel
theorem dX9_ofGate_28 : decode cX9_ofGate 28 = .ok (.aload_n 0, 1) := by decide +kernel
theorem dX9_ofGate_29 : decode cX9_ofGate 29 = .ok (.getfield 18, 3) := by decide +kernel
theorem dX9_ofGate_32 : decode cX9_ofGate 32 = .ok (.iload_n 1, 1) := by decide +kernel
theorem dX9_ofGate_33 : decode cX9_ofGate 33 = .ok (.iaload, 1) := by decide +kernel
theorem dX9_ofGate_34 : decode cX9_ofGate 34 = .ok (.ireturn, 1) := by decide +kernel
theorem dX9_ofGate_35 : decode cX9_ofGate 35 = .ok (.aload_n 0, 1) := by decide +kernel
theorem dX9_ofGate_36 : decode cX9_ofGate 36 = .ok (.getfield 21, 3) := by decide +kernel
theorem dX9_ofGate_39 : decode cX9_ofGate 39 = .ok (.iload_n 1, 1) := by decide +kernel
theorem dX9_ofGate_40 : decode cX9_ofGate 40 = .ok (.iaload, 1) := by decide +kernel
theorem dX9_ofGate_41 : decode cX9_ofGate 41 = .ok (.ireturn, 1) := by decide +kernel
theorem dX9_ofGate_42 : decode cX9_ofGate 42 = .ok (.aload_n 0, 1) := by decide +kernel
theorem dX9_ofGate_43 : decode cX9_ofGate 43 = .ok (.getfield 24, 3) := by decide +kernel
theorem dX9_ofGate_46 : decode cX9_ofGate 46 = .ok (.iload_n 1, 1) := by decide +kernel
theorem dX9_ofGate_47 : decode cX9_ofGate 47 = .ok (.iaload, 1) := by decide +kernel
theorem dX9_ofGate_48 : decode cX9_ofGate 48 = .ok (.ireturn, 1) := by decide +kernel
theorem dX9_ofGate_49 : decode cX9_ofGate 49 = .ok (.iload_n 2, 1) := by decide +kernel
theorem dX9_ofGate_50 : decode cX9_ofGate 50 = .ok (.iconst 3, 1) := by decide +kernel
theorem dX9_ofGate_51 : decode cX9_ofGate 51 = .ok (.isub, 1) := by decide +kernel
theorem dX9_ofGate_52 : decode cX9_ofGate 52 = .ok (.iconst 0, 1) := by decide +kernel
theorem dX9_ofGate_53 : decode cX9_ofGate 53 = .ok (.aload_n 0, 1) := by decide +kernel
theorem dX9_ofGate_54 : decode cX9_ofGate 54 = .ok (.getfield 24, 3) := by decide +kernel
theorem dX9_ofGate_57 : decode cX9_ofGate 57 = .ok (.iload_n 1, 1) := by decide +kernel
theorem dX9_ofGate_58 : decode cX9_ofGate 58 = .ok (.iaload, 1) := by decide +kernel
theorem dX9_ofGate_59 : decode cX9_ofGate 59 = .ok (.iconst 1, 1) := by decide +kernel
theorem dX9_ofGate_60 : decode cX9_ofGate 60 = .ok (.isub, 1) := by decide +kernel
theorem dX9_ofGate_61 : decode cX9_ofGate 61 = .ok (.invokestatic 93, 3) := by decide +kernel
theorem dX9_ofGate_64 : decode cX9_ofGate 64 = .ok (.ifCond .eq 18, 3) := by decide +kernel
theorem dX9_ofGate_67 : decode cX9_ofGate 67 = .ok (.aload_n 0, 1) := by decide +kernel
theorem dX9_ofGate_68 : decode cX9_ofGate 68 = .ok (.getfield 27, 3) := by decide +kernel
theorem dX9_ofGate_71 : decode cX9_ofGate 71 = .ok (.iconst 4, 1) := by decide +kernel
theorem dX9_ofGate_72 : decode cX9_ofGate 72 = .ok (.iload_n 1, 1) := by decide +kernel
theorem dX9_ofGate_73 : decode cX9_ofGate 73 = .ok (.imul, 1) := by decide +kernel
theorem dX9_ofGate_74 : decode cX9_ofGate 74 = .ok (.iload_n 2, 1) := by decide +kernel
theorem dX9_ofGate_75 : decode cX9_ofGate 75 = .ok (.iadd, 1) := by decide +kernel
theorem dX9_ofGate_76 : decode cX9_ofGate 76 = .ok (.iconst 3, 1) := by decide +kernel
theorem dX9_ofGate_77 : decode cX9_ofGate 77 = .ok (.isub, 1) := by decide +kernel
theorem dX9_ofGate_78 : decode cX9_ofGate 78 = .ok (.iaload, 1) := by decide +kernel
theorem dX9_ofGate_79 : decode cX9_ofGate 79 = .ok (.goto 4, 3) := by decide +kernel
theorem dX9_ofGate_82 : decode cX9_ofGate 82 = .ok (.iconst (-1), 1) := by decide +kernel
theorem dX9_ofGate_83 : decode cX9_ofGate 83 = .ok (.ireturn, 1) := by decide +kernel
theorem dX9_of_0 : decode cX9_of 0 = .ok (.iload_n 1, 1) := by decide +kernel
theorem dX9_of_1 : decode cX9_of 1 = .ok (.tableswitch 133 0 2 #[27, 67, 86], 27) := by decide +kernel
theorem dX9_of_28 : decode cX9_of 28 = .ok (.aload_n 0, 1) := by decide +kernel
theorem dX9_of_29 : decode cX9_of 29 = .ok (.iload_n 2, 1) := by decide +kernel
theorem dX9_of_30 : decode cX9_of 30 = .ok (.invokevirtual 111, 3) := by decide +kernel
theorem dX9_of_33 : decode cX9_of 33 = .ok (.ifCond .eq 12, 3) := by decide +kernel
theorem dX9_of_36 : decode cX9_of 36 = .ok (.iload_n 3, 1) := by decide +kernel
theorem dX9_of_37 : decode cX9_of 37 = .ok (.iconst 0, 1) := by decide +kernel
theorem dX9_of_38 : decode cX9_of 38 = .ok (.iconst 1, 1) := by decide +kernel
theorem dX9_of_39 : decode cX9_of 39 = .ok (.invokestatic 93, 3) := by decide +kernel
theorem dX9_of_42 : decode cX9_of 42 = .ok (.ifCond .ne 7, 3) := by decide +kernel
theorem dX9_of_45 : decode cX9_of 45 = .ok (.iconst (-1), 1) := by decide +kernel
theorem dX9_of_46 : decode cX9_of 46 = .ok (.goto 21, 3) := by decide +kernel
theorem dX9_of_49 : decode cX9_of 49 = .ok (.iload_n 3, 1) := by decide +kernel
theorem dX9_of_50 : decode cX9_of 50 = .ok (.ifCond .ne 12, 3) := by decide +kernel
theorem dX9_of_53 : decode cX9_of 53 = .ok (.aload_n 0, 1) := by decide +kernel
theorem dX9_of_54 : decode cX9_of 54 = .ok (.getfield 9, 3) := by decide +kernel
theorem dX9_of_57 : decode cX9_of 57 = .ok (.iload_n 2, 1) := by decide +kernel
theorem dX9_of_58 : decode cX9_of 58 = .ok (.iaload, 1) := by decide +kernel
theorem dX9_of_59 : decode cX9_of 59 = .ok (.goto 8, 3) := by decide +kernel
theorem dX9_of_62 : decode cX9_of 62 = .ok (.aload_n 0, 1) := by decide +kernel
theorem dX9_of_63 : decode cX9_of 63 = .ok (.iload_n 2, 1) := by decide +kernel
theorem dX9_of_64 : decode cX9_of 64 = .ok (.invokevirtual 124, 3) := by decide +kernel
theorem dX9_of_67 : decode cX9_of 67 = .ok (.ireturn, 1) := by decide +kernel
theorem dX9_of_68 : decode cX9_of 68 = .ok (.aload_n 0, 1) := by decide +kernel
theorem dX9_of_69 : decode cX9_of 69 = .ok (.iload_n 2, 1) := by decide +kernel
theorem dX9_of_70 : decode cX9_of 70 = .ok (.invokevirtual 108, 3) := by decide +kernel
theorem dX9_of_73 : decode cX9_of 73 = .ok (.ifCond .eq 12, 3) := by decide +kernel
theorem dX9_of_76 : decode cX9_of 76 = .ok (.aload_n 0, 1) := by decide +kernel
theorem dX9_of_77 : decode cX9_of 77 = .ok (.iload_n 2, 1) := by decide +kernel
theorem dX9_of_78 : decode cX9_of 78 = .ok (.iload_n 3, 1) := by decide +kernel
theorem dX9_of_79 : decode cX9_of 79 = .ok (.invokevirtual 128, 3) := by decide +kernel
theorem dX9_of_82 : decode cX9_of 82 = .ok (.goto 4, 3) := by decide +kernel
theorem dX9_of_85 : decode cX9_of 85 = .ok (.iconst (-1), 1) := by decide +kernel
theorem dX9_of_86 : decode cX9_of 86 = .ok (.ireturn, 1) := by decide +kernel
theorem dX9_of_87 : decode cX9_of 87 = .ok (.iload_n 2, 1) := by decide +kernel
theorem dX9_of_88 : decode cX9_of 88 = .ok (.iconst 0, 1) := by decide +kernel
theorem dX9_of_89 : decode cX9_of 89 = .ok (.aload_n 0, 1) := by decide +kernel
theorem dX9_of_90 : decode cX9_of 90 = .ok (.getfield 121, 3) := by decide +kernel
theorem dX9_of_93 : decode cX9_of 93 = .ok (.iconst 1, 1) := by decide +kernel
theorem dX9_of_94 : decode cX9_of 94 = .ok (.isub, 1) := by decide +kernel
theorem dX9_of_95 : decode cX9_of 95 = .ok (.invokestatic 93, 3) := by decide +kernel
theorem dX9_of_98 : decode cX9_of 98 = .ok (.ifCond .eq 12, 3) := by decide +kernel
theorem dX9_of_101 : decode cX9_of 101 = .ok (.iload_n 3, 1) := by decide +kernel
theorem dX9_of_102 : decode cX9_of 102 = .ok (.iconst 0, 1) := by decide +kernel
theorem dX9_of_103 : decode cX9_of 103 = .ok (.iconst 1, 1) := by decide +kernel
theorem dX9_of_104 : decode cX9_of 104 = .ok (.invokestatic 93, 3) := by decide +kernel
theorem dX9_of_107 : decode cX9_of 107 = .ok (.ifCond .ne 7, 3) := by decide +kernel
theorem dX9_of_110 : decode cX9_of 110 = .ok (.iconst (-1), 1) := by decide +kernel
theorem dX9_of_111 : decode cX9_of 111 = .ok (.goto 22, 3) := by decide +kernel
theorem dX9_of_114 : decode cX9_of 114 = .ok (.iload_n 3, 1) := by decide +kernel
theorem dX9_of_115 : decode cX9_of 115 = .ok (.ifCond .ne 12, 3) := by decide +kernel
theorem dX9_of_118 : decode cX9_of 118 = .ok (.aload_n 0, 1) := by decide +kernel
theorem dX9_of_119 : decode cX9_of 119 = .ok (.getfield 34, 3) := by decide +kernel
theorem dX9_of_122 : decode cX9_of 122 = .ok (.iload_n 2, 1) := by decide +kernel
theorem dX9_of_123 : decode cX9_of 123 = .ok (.iaload, 1) := by decide +kernel
theorem dX9_of_124 : decode cX9_of 124 = .ok (.goto 9, 3) := by decide +kernel
theorem dX9_of_127 : decode cX9_of 127 = .ok (.aload_n 0, 1) := by decide +kernel
theorem dX9_of_128 : decode cX9_of 128 = .ok (.getfield 37, 3) := by decide +kernel
theorem dX9_of_131 : decode cX9_of 131 = .ok (.iload_n 2, 1) := by decide +kernel
theorem dX9_of_132 : decode cX9_of 132 = .ok (.iaload, 1) := by decide +kernel
theorem dX9_of_133 : decode cX9_of 133 = .ok (.ireturn, 1) := by decide +kernel
theorem dX9_of_134 : decode cX9_of 134 = .ok (.iconst (-1), 1) := by decide +kernel
theorem dX9_of_135 : decode cX9_of 135 = .ok (.ireturn, 1) := by decide +kernel
theorem dX9_feed_0 : decode cX9_feed 0 = .ok (.iload_n 1, 1) := by decide +kernel
theorem dX9_feed_1 : decode cX9_feed 1 = .ok (.iconst 0, 1) := by decide +kernel
theorem dX9_feed_2 : decode cX9_feed 2 = .ok (.bipush 127, 2) := by decide +kernel
theorem dX9_feed_4 : decode cX9_feed 4 = .ok (.invokestatic 93, 3) := by decide +kernel
theorem dX9_feed_7 : decode cX9_feed 7 = .ok (.ifCond .ne 6, 3) := by decide +kernel
theorem dX9_feed_10 : decode cX9_feed 10 = .ok (.bipush (-2), 2) := by decide +kernel
theorem dX9_feed_12 : decode cX9_feed 12 = .ok (.ireturn, 1) := by decide +kernel
theorem dX9_feed_13 : decode cX9_feed 13 = .ok (.aload_n 0, 1) := by decide +kernel
theorem dX9_feed_14 : decode cX9_feed 14 = .ok (.getfield 132, 3) := by decide +kernel
theorem dX9_feed_17 : decode cX9_feed 17 = .ok (.bipush 100, 2) := by decide +kernel
theorem dX9_feed_19 : decode cX9_feed 19 = .ok (.if_icmp .ne 6, 3) := by decide +kernel
theorem dX9_feed_22 : decode cX9_feed 22 = .ok (.bipush (-4), 2) := by decide +kernel
theorem dX9_feed_24 : decode cX9_feed 24 = .ok (.ireturn, 1) := by decide +kernel
theorem dX9_feed_25 : decode cX9_feed 25 = .ok (.aload_n 0, 1) := by decide +kernel
theorem dX9_feed_26 : decode cX9_feed 26 = .ok (.getfield 52, 3) := by decide +kernel
theorem dX9_feed_29 : decode cX9_feed 29 = .ok (.aload_n 0, 1) := by decide +kernel
theorem dX9_feed_30 : decode cX9_feed 30 = .ok (.dup, 1) := by decide +kernel
theorem dX9_feed_31 : decode cX9_feed 31 = .ok (.getfield 132, 3) := by decide +kernel
theorem dX9_feed_34 : decode cX9_feed 34 = .ok (.dup_x1, 1) := by decide +kernel
theorem dX9_feed_35 : decode cX9_feed 35 = .ok (.iconst 1, 1) := by decide +kernel
theorem dX9_feed_36 : decode cX9_feed 36 = .ok (.iadd, 1) := by decide +kernel
theorem dX9_feed_37 : decode cX9_feed 37 = .ok (.putfield 132, 3) := by decide +kernel
theorem dX9_feed_40 : decode cX9_feed 40 = .ok (.iload_n 1, 1) := by decide +kernel
theorem dX9_feed_41 : decode cX9_feed 41 = .ok (.iastore, 1) := by decide +kernel
theorem dX9_feed_42 : decode cX9_feed 42 = .ok (.aload_n 0, 1) := by decide +kernel
theorem dX9_feed_43 : decode cX9_feed 43 = .ok (.getfield 132, 3) := by decide +kernel
theorem dX9_feed_46 : decode cX9_feed 46 = .ok (.ireturn, 1) := by decide +kernel
theorem dX9_signAt_0 : decode cX9_signAt 0 = .ok (.iload_n 1, 1) := by decide +kernel
theorem dX9_signAt_1 : decode cX9_signAt 1 = .ok (.aload_n 0, 1) := by decide +kernel
theorem dX9_signAt_2 : decode cX9_signAt 2 = .ok (.getfield 132, 3) := by decide +kernel
theorem dX9_signAt_5 : decode cX9_signAt 5 = .ok (.if_icmp .ge 12, 3) := by decide +kernel
theorem dX9_signAt_8 : decode cX9_signAt 8 = .ok (.aload_n 0, 1) := by decide +kernel
theorem dX9_signAt_9 : decode cX9_signAt 9 = .ok (.getfield 52, 3) := by decide +kernel
theorem dX9_signAt_12 : decode cX9_signAt 12 = .ok (.iload_n 1, 1) := by decide +kernel
theorem dX9_signAt_13 : decode cX9_signAt 13 = .ok (.iaload, 1) := by decide +kernel
theorem dX9_signAt_14 : decode cX9_signAt 14 = .ok (.goto 4, 3) := by decide +kernel
theorem dX9_signAt_17 : decode cX9_signAt 17 = .ok (.iconst (-1), 1) := by decide +kernel
theorem dX9_signAt_18 : decode cX9_signAt 18 = .ok (.ireturn, 1) := by decide +kernel
theorem dX9_isDigit_0 : decode cX9_isDigit 0 = .ok (.aload_n 0, 1) := by decide +kernel
theorem dX9_isDigit_1 : decode cX9_isDigit 1 = .ok (.iload_n 1, 1) := by decide +kernel
theorem dX9_isDigit_2 : decode cX9_isDigit 2 = .ok (.invokevirtual 135, 3) := by decide +kernel
theorem dX9_isDigit_5 : decode cX9_isDigit 5 = .ok (.bipush 48, 2) := by decide +kernel
theorem dX9_isDigit_7 : decode cX9_isDigit 7 = .ok (.bipush 57, 2) := by decide +kernel
theorem dX9_isDigit_9 : decode cX9_isDigit 9 = .ok (.invokestatic 93, 3) := by decide +kernel
theorem dX9_isDigit_12 : decode cX9_isDigit 12 = .ok (.ireturn, 1) := by decide +kernel
theorem dX9_behindOdds_0 : decode cX9_behindOdds 0 = .ok (.iload_n 1, 1) := by decide +kernel
theorem dX9_behindOdds_1 : decode cX9_behindOdds 1 = .ok (.istore_n 2, 1) := by decide +kernel
theorem dX9_behindOdds_2 : decode cX9_behindOdds 2 = .ok (.iload_n 2, 1) := by decide +kernel
theorem dX9_behindOdds_3 : decode cX9_behindOdds 3 = .ok (.iload_n 1, 1) := by decide +kernel
theorem dX9_behindOdds_4 : decode cX9_behindOdds 4 = .ok (.iconst 3, 1) := by decide +kernel
theorem dX9_behindOdds_5 : decode cX9_behindOdds 5 = .ok (.iadd, 1) := by decide +kernel
theorem dX9_behindOdds_6 : decode cX9_behindOdds 6 = .ok (.if_icmp .ge 17, 3) := by decide +kernel
theorem dX9_behindOdds_9 : decode cX9_behindOdds 9 = .ok (.aload_n 0, 1) := by decide +kernel
theorem dX9_behindOdds_10 : decode cX9_behindOdds 10 = .ok (.iload_n 2, 1) := by decide +kernel
theorem dX9_behindOdds_11 : decode cX9_behindOdds 11 = .ok (.invokevirtual 138, 3) := by decide +kernel
theorem dX9_behindOdds_14 : decode cX9_behindOdds 14 = .ok (.ifCond .eq 9, 3) := by decide +kernel
theorem dX9_behindOdds_17 : decode cX9_behindOdds 17 = .ok (.iinc 2 1, 3) := by decide +kernel
theorem dX9_behindOdds_20 : decode cX9_behindOdds 20 = .ok (.goto (-18), 3) := by decide +kernel
theorem dX9_behindOdds_23 : decode cX9_behindOdds 23 = .ok (.iload_n 2, 1) := by decide +kernel
theorem dX9_behindOdds_24 : decode cX9_behindOdds 24 = .ok (.ireturn, 1) := by decide +kernel
theorem dX9_behindParts_0 : decode cX9_behindParts 0 = .ok (.iload_n 1, 1) := by decide +kernel
theorem dX9_behindParts_1 : decode cX9_behindParts 1 = .ok (.istore_n 2, 1) := by decide +kernel
theorem dX9_behindParts_2 : decode cX9_behindParts 2 = .ok (.iconst 0, 1) := by decide +kernel
theorem dX9_behindParts_3 : decode cX9_behindParts 3 = .ok (.istore_n 3, 1) := by decide +kernel
theorem dX9_behindParts_4 : decode cX9_behindParts 4 = .ok (.iload_n 3, 1) := by decide +kernel
theorem dX9_behindParts_5 : decode cX9_behindParts 5 = .ok (.iconst 4, 1) := by decide +kernel
theorem dX9_behindParts_6 : decode cX9_behindParts 6 = .ok (.if_icmp .ge 49, 3) := by decide +kernel
theorem dX9_behindParts_9 : decode cX9_behindParts 9 = .ok (.aload_n 0, 1) := by decide +kernel
theorem dX9_behindParts_10 : decode cX9_behindParts 10 = .ok (.iload_n 2, 1) := by decide +kernel
theorem dX9_behindParts_11 : decode cX9_behindParts 11 = .ok (.invokevirtual 135, 3) := by decide +kernel
theorem dX9_behindParts_14 : decode cX9_behindParts 14 = .ok (.bipush 112, 2) := by decide +kernel
theorem dX9_behindParts_16 : decode cX9_behindParts 16 = .ok (.if_icmp .eq 15, 3) := by decide +kernel
theorem dX9_behindParts_19 : decode cX9_behindParts 19 = .ok (.iload_n 3, 1) := by decide +kernel
theorem dX9_behindParts_20 : decode cX9_behindParts 20 = .ok (.ifCond .ne 9, 3) := by decide +kernel
theorem dX9_behindParts_23 : decode cX9_behindParts 23 = .ok (.iconst (-1), 1) := by decide +kernel
theorem dX9_behindParts_24 : decode cX9_behindParts 24 = .ok (.iload_n 2, 1) := by decide +kernel
theorem dX9_behindParts_25 : decode cX9_behindParts 25 = .ok (.isub, 1) := by decide +kernel
theorem dX9_behindParts_26 : decode cX9_behindParts 26 = .ok (.goto 4, 3) := by decide +kernel
theorem dX9_behindParts_29 : decode cX9_behindParts 29 = .ok (.iload_n 2, 1) := by decide +kernel
theorem dX9_behindParts_30 : decode cX9_behindParts 30 = .ok (.ireturn, 1) := by decide +kernel
theorem dX9_behindParts_31 : decode cX9_behindParts 31 = .ok (.aload_n 0, 1) := by decide +kernel
theorem dX9_behindParts_32 : decode cX9_behindParts 32 = .ok (.iload_n 2, 1) := by decide +kernel
theorem dX9_behindParts_33 : decode cX9_behindParts 33 = .ok (.iconst 1, 1) := by decide +kernel
theorem dX9_behindParts_34 : decode cX9_behindParts 34 = .ok (.iadd, 1) := by decide +kernel
theorem dX9_behindParts_35 : decode cX9_behindParts 35 = .ok (.invokevirtual 138, 3) := by decide +kernel
theorem dX9_behindParts_38 : decode cX9_behindParts 38 = .ok (.ifCond .ne 8, 3) := by decide +kernel
theorem dX9_behindParts_41 : decode cX9_behindParts 41 = .ok (.bipush (-2), 2) := by decide +kernel
theorem dX9_behindParts_43 : decode cX9_behindParts 43 = .ok (.iload_n 2, 1) := by decide +kernel
theorem dX9_behindParts_44 : decode cX9_behindParts 44 = .ok (.isub, 1) := by decide +kernel
theorem dX9_behindParts_45 : decode cX9_behindParts 45 = .ok (.ireturn, 1) := by decide +kernel
theorem dX9_behindParts_46 : decode cX9_behindParts 46 = .ok (.iinc 2 2, 3) := by decide +kernel
theorem dX9_behindParts_49 : decode cX9_behindParts 49 = .ok (.iinc 3 1, 3) := by decide +kernel
theorem dX9_behindParts_52 : decode cX9_behindParts 52 = .ok (.goto (-48), 3) := by decide +kernel
theorem dX9_behindParts_55 : decode cX9_behindParts 55 = .ok (.iload_n 2, 1) := by decide +kernel
theorem dX9_behindParts_56 : decode cX9_behindParts 56 = .ok (.ireturn, 1) := by decide +kernel
theorem dX9_behind_0 : decode cX9_behind 0 = .ok (.aload_n 0, 1) := by decide +kernel
theorem dX9_behind_1 : decode cX9_behind 1 = .ok (.iload_n 1, 1) := by decide +kernel
theorem dX9_behind_2 : decode cX9_behind 2 = .ok (.iconst 1, 1) := by decide +kernel
theorem dX9_behind_3 : decode cX9_behind 3 = .ok (.iadd, 1) := by decide +kernel
theorem dX9_behind_4 : decode cX9_behind 4 = .ok (.invokevirtual 141, 3) := by decide +kernel
theorem dX9_behind_7 : decode cX9_behind 7 = .ok (.istore_n 2, 1) := by decide +kernel
theorem dX9_behind_8 : decode cX9_behind 8 = .ok (.aload_n 0, 1) := by decide +kernel
theorem dX9_behind_9 : decode cX9_behind 9 = .ok (.iload_n 1, 1) := by decide +kernel
theorem dX9_behind_10 : decode cX9_behind 10 = .ok (.invokevirtual 135, 3) := by decide +kernel
theorem dX9_behind_13 : decode cX9_behind 13 = .ok (.tableswitch 215 97 115 #[106, 215, 196, 215, 215, 215, 215, 215, 215, 131, 215, 215, 215, 215, 106, 91, 215, 215, 110], 91) := by decide +kernel
theorem dX9_behind_104 : decode cX9_behind 104 = .ok (.iload_n 2, 1) := by decide +kernel
theorem dX9_behind_105 : decode cX9_behind 105 = .ok (.iload_n 1, 1) := by decide +kernel
theorem dX9_behind_106 : decode cX9_behind 106 = .ok (.iconst 1, 1) := by decide +kernel
theorem dX9_behind_107 : decode cX9_behind 107 = .ok (.iadd, 1) := by decide +kernel
theorem dX9_behind_108 : decode cX9_behind 108 = .ok (.if_icmp .ne 9, 3) := by decide +kernel
theorem dX9_behind_111 : decode cX9_behind 111 = .ok (.iconst (-1), 1) := by decide +kernel
theorem dX9_behind_112 : decode cX9_behind 112 = .ok (.iload_n 2, 1) := by decide +kernel
theorem dX9_behind_113 : decode cX9_behind 113 = .ok (.isub, 1) := by decide +kernel
theorem dX9_behind_114 : decode cX9_behind 114 = .ok (.goto 4, 3) := by decide +kernel
theorem dX9_behind_117 : decode cX9_behind 117 = .ok (.iload_n 2, 1) := by decide +kernel
theorem dX9_behind_118 : decode cX9_behind 118 = .ok (.ireturn, 1) := by decide +kernel
theorem dX9_behind_119 : decode cX9_behind 119 = .ok (.iload_n 1, 1) := by decide +kernel
theorem dX9_behind_120 : decode cX9_behind 120 = .ok (.iconst 1, 1) := by decide +kernel
theorem dX9_behind_121 : decode cX9_behind 121 = .ok (.iadd, 1) := by decide +kernel
theorem dX9_behind_122 : decode cX9_behind 122 = .ok (.ireturn, 1) := by decide +kernel
theorem dX9_behind_123 : decode cX9_behind 123 = .ok (.aload_n 0, 1) := by decide +kernel
theorem dX9_behind_124 : decode cX9_behind 124 = .ok (.iload_n 1, 1) := by decide +kernel
theorem dX9_behind_125 : decode cX9_behind 125 = .ok (.iconst 1, 1) := by decide +kernel
theorem dX9_behind_126 : decode cX9_behind 126 = .ok (.iadd, 1) := by decide +kernel
theorem dX9_behind_127 : decode cX9_behind 127 = .ok (.invokevirtual 138, 3) := by decide +kernel
theorem dX9_behind_130 : decode cX9_behind 130 = .ok (.ifCond .eq 9, 3) := by decide +kernel
theorem dX9_behind_133 : decode cX9_behind 133 = .ok (.iload_n 1, 1) := by decide +kernel
theorem dX9_behind_134 : decode cX9_behind 134 = .ok (.iconst 2, 1) := by decide +kernel
theorem dX9_behind_135 : decode cX9_behind 135 = .ok (.iadd, 1) := by decide +kernel
theorem dX9_behind_136 : decode cX9_behind 136 = .ok (.goto 7, 3) := by decide +kernel
theorem dX9_behind_139 : decode cX9_behind 139 = .ok (.bipush (-2), 2) := by decide +kernel
theorem dX9_behind_141 : decode cX9_behind 141 = .ok (.iload_n 1, 1) := by decide +kernel
theorem dX9_behind_142 : decode cX9_behind 142 = .ok (.isub, 1) := by decide +kernel
theorem dX9_behind_143 : decode cX9_behind 143 = .ok (.ireturn, 1) := by decide +kernel
theorem dX9_behind_144 : decode cX9_behind 144 = .ok (.aload_n 0, 1) := by decide +kernel
theorem dX9_behind_145 : decode cX9_behind 145 = .ok (.iload_n 1, 1) := by decide +kernel
theorem dX9_behind_146 : decode cX9_behind 146 = .ok (.iconst 1, 1) := by decide +kernel
theorem dX9_behind_147 : decode cX9_behind 147 = .ok (.iadd, 1) := by decide +kernel
theorem dX9_behind_148 : decode cX9_behind 148 = .ok (.invokevirtual 138, 3) := by decide +kernel
theorem dX9_behind_151 : decode cX9_behind 151 = .ok (.ifCond .ne 8, 3) := by decide +kernel
theorem dX9_behind_154 : decode cX9_behind 154 = .ok (.bipush (-2), 2) := by decide +kernel
theorem dX9_behind_156 : decode cX9_behind 156 = .ok (.iload_n 1, 1) := by decide +kernel
theorem dX9_behind_157 : decode cX9_behind 157 = .ok (.isub, 1) := by decide +kernel
theorem dX9_behind_158 : decode cX9_behind 158 = .ok (.ireturn, 1) := by decide +kernel
theorem dX9_behind_159 : decode cX9_behind 159 = .ok (.aload_n 0, 1) := by decide +kernel
theorem dX9_behind_160 : decode cX9_behind 160 = .ok (.iload_n 1, 1) := by decide +kernel
theorem dX9_behind_161 : decode cX9_behind 161 = .ok (.iconst 2, 1) := by decide +kernel
theorem dX9_behind_162 : decode cX9_behind 162 = .ok (.iadd, 1) := by decide +kernel
theorem dX9_behind_163 : decode cX9_behind 163 = .ok (.invokevirtual 135, 3) := by decide +kernel
theorem dX9_behind_166 : decode cX9_behind 166 = .ok (.bipush 112, 2) := by decide +kernel
theorem dX9_behind_168 : decode cX9_behind 168 = .ok (.if_icmp .eq 20, 3) := by decide +kernel
theorem dX9_behind_171 : decode cX9_behind 171 = .ok (.aload_n 0, 1) := by decide +kernel
theorem dX9_behind_172 : decode cX9_behind 172 = .ok (.iload_n 1, 1) := by decide +kernel
theorem dX9_behind_173 : decode cX9_behind 173 = .ok (.iconst 2, 1) := by decide +kernel
theorem dX9_behind_174 : decode cX9_behind 174 = .ok (.iadd, 1) := by decide +kernel
theorem dX9_behind_175 : decode cX9_behind 175 = .ok (.invokevirtual 135, 3) := by decide +kernel
theorem dX9_behind_178 : decode cX9_behind 178 = .ok (.bipush 103, 2) := by decide +kernel
theorem dX9_behind_180 : decode cX9_behind 180 = .ok (.if_icmp .eq 8, 3) := by decide +kernel
theorem dX9_behind_183 : decode cX9_behind 183 = .ok (.bipush (-3), 2) := by decide +kernel
theorem dX9_behind_185 : decode cX9_behind 185 = .ok (.iload_n 1, 1) := by decide +kernel
theorem dX9_behind_186 : decode cX9_behind 186 = .ok (.isub, 1) := by decide +kernel
theorem dX9_behind_187 : decode cX9_behind 187 = .ok (.ireturn, 1) := by decide +kernel
theorem dX9_behind_188 : decode cX9_behind 188 = .ok (.aload_n 0, 1) := by decide +kernel
theorem dX9_behind_189 : decode cX9_behind 189 = .ok (.iload_n 1, 1) := by decide +kernel
theorem dX9_behind_190 : decode cX9_behind 190 = .ok (.iconst 3, 1) := by decide +kernel
theorem dX9_behind_191 : decode cX9_behind 191 = .ok (.iadd, 1) := by decide +kernel
theorem dX9_behind_192 : decode cX9_behind 192 = .ok (.invokevirtual 138, 3) := by decide +kernel
theorem dX9_behind_195 : decode cX9_behind 195 = .ok (.ifCond .eq 9, 3) := by decide +kernel
theorem dX9_behind_198 : decode cX9_behind 198 = .ok (.iload_n 1, 1) := by decide +kernel
theorem dX9_behind_199 : decode cX9_behind 199 = .ok (.iconst 4, 1) := by decide +kernel
theorem dX9_behind_200 : decode cX9_behind 200 = .ok (.iadd, 1) := by decide +kernel
theorem dX9_behind_201 : decode cX9_behind 201 = .ok (.goto 7, 3) := by decide +kernel
theorem dX9_behind_204 : decode cX9_behind 204 = .ok (.bipush (-4), 2) := by decide +kernel
theorem dX9_behind_206 : decode cX9_behind 206 = .ok (.iload_n 1, 1) := by decide +kernel
theorem dX9_behind_207 : decode cX9_behind 207 = .ok (.isub, 1) := by decide +kernel
theorem dX9_behind_208 : decode cX9_behind 208 = .ok (.ireturn, 1) := by decide +kernel
theorem dX9_behind_209 : decode cX9_behind 209 = .ok (.iload_n 2, 1) := by decide +kernel
theorem dX9_behind_210 : decode cX9_behind 210 = .ok (.iload_n 1, 1) := by decide +kernel
theorem dX9_behind_211 : decode cX9_behind 211 = .ok (.iconst 1, 1) := by decide +kernel
theorem dX9_behind_212 : decode cX9_behind 212 = .ok (.iadd, 1) := by decide +kernel
theorem dX9_behind_213 : decode cX9_behind 213 = .ok (.if_icmp .ne 9, 3) := by decide +kernel
theorem dX9_behind_216 : decode cX9_behind 216 = .ok (.iconst (-1), 1) := by decide +kernel
theorem dX9_behind_217 : decode cX9_behind 217 = .ok (.iload_n 2, 1) := by decide +kernel
theorem dX9_behind_218 : decode cX9_behind 218 = .ok (.isub, 1) := by decide +kernel
theorem dX9_behind_219 : decode cX9_behind 219 = .ok (.goto 8, 3) := by decide +kernel
theorem dX9_behind_222 : decode cX9_behind 222 = .ok (.aload_n 0, 1) := by decide +kernel
theorem dX9_behind_223 : decode cX9_behind 223 = .ok (.iload_n 2, 1) := by decide +kernel
theorem dX9_behind_224 : decode cX9_behind 224 = .ok (.invokevirtual 144, 3) := by decide +kernel
theorem dX9_behind_227 : decode cX9_behind 227 = .ok (.ireturn, 1) := by decide +kernel
theorem dX9_behind_228 : decode cX9_behind 228 = .ok (.iconst (-1), 1) := by decide +kernel
theorem dX9_behind_229 : decode cX9_behind 229 = .ok (.iload_n 1, 1) := by decide +kernel
theorem dX9_behind_230 : decode cX9_behind 230 = .ok (.isub, 1) := by decide +kernel
theorem dX9_behind_231 : decode cX9_behind 231 = .ok (.ireturn, 1) := by decide +kernel
theorem dX9_fault_0 : decode cX9_fault 0 = .ok (.aload_n 0, 1) := by decide +kernel
theorem dX9_fault_1 : decode cX9_fault 1 = .ok (.iconst 0, 1) := by decide +kernel
theorem dX9_fault_2 : decode cX9_fault 2 = .ok (.invokevirtual 147, 3) := by decide +kernel
theorem dX9_fault_5 : decode cX9_fault 5 = .ok (.istore_n 1, 1) := by decide +kernel
theorem dX9_fault_6 : decode cX9_fault 6 = .ok (.iconst 1, 1) := by decide +kernel
theorem dX9_fault_7 : decode cX9_fault 7 = .ok (.istore_n 2, 1) := by decide +kernel
theorem dX9_fault_8 : decode cX9_fault 8 = .ok (.iload_n 1, 1) := by decide +kernel
theorem dX9_fault_9 : decode cX9_fault 9 = .ok (.ifCond .lt 44, 3) := by decide +kernel
theorem dX9_fault_12 : decode cX9_fault 12 = .ok (.iload_n 1, 1) := by decide +kernel
theorem dX9_fault_13 : decode cX9_fault 13 = .ok (.aload_n 0, 1) := by decide +kernel
theorem dX9_fault_14 : decode cX9_fault 14 = .ok (.getfield 132, 3) := by decide +kernel
theorem dX9_fault_17 : decode cX9_fault 17 = .ok (.if_icmp .ge 36, 3) := by decide +kernel
theorem dX9_fault_20 : decode cX9_fault 20 = .ok (.aload_n 0, 1) := by decide +kernel
theorem dX9_fault_21 : decode cX9_fault 21 = .ok (.getfield 52, 3) := by decide +kernel
theorem dX9_fault_24 : decode cX9_fault 24 = .ok (.iload_n 1, 1) := by decide +kernel
theorem dX9_fault_25 : decode cX9_fault 25 = .ok (.iaload, 1) := by decide +kernel
theorem dX9_fault_26 : decode cX9_fault 26 = .ok (.bipush 59, 2) := by decide +kernel
theorem dX9_fault_28 : decode cX9_fault 28 = .ok (.if_icmp .ne 9, 3) := by decide +kernel
theorem dX9_fault_31 : decode cX9_fault 31 = .ok (.iload_n 2, 1) := by decide +kernel
theorem dX9_fault_32 : decode cX9_fault 32 = .ok (.bipush 16, 2) := by decide +kernel
theorem dX9_fault_34 : decode cX9_fault 34 = .ok (.if_icmp .ne 5, 3) := by decide +kernel
theorem dX9_fault_37 : decode cX9_fault 37 = .ok (.iload_n 1, 1) := by decide +kernel
theorem dX9_fault_38 : decode cX9_fault 38 = .ok (.ireturn, 1) := by decide +kernel
theorem dX9_fault_39 : decode cX9_fault 39 = .ok (.iinc 2 1, 3) := by decide +kernel
theorem dX9_fault_42 : decode cX9_fault 42 = .ok (.aload_n 0, 1) := by decide +kernel
theorem dX9_fault_43 : decode cX9_fault 43 = .ok (.iload_n 1, 1) := by decide +kernel
theorem dX9_fault_44 : decode cX9_fault 44 = .ok (.iconst 1, 1) := by decide +kernel
theorem dX9_fault_45 : decode cX9_fault 45 = .ok (.iadd, 1) := by decide +kernel
theorem dX9_fault_46 : decode cX9_fault 46 = .ok (.invokevirtual 147, 3) := by decide +kernel
theorem dX9_fault_49 : decode cX9_fault 49 = .ok (.istore_n 1, 1) := by decide +kernel
theorem dX9_fault_50 : decode cX9_fault 50 = .ok (.goto (-42), 3) := by decide +kernel
theorem dX9_fault_53 : decode cX9_fault 53 = .ok (.iload_n 1, 1) := by decide +kernel
theorem dX9_fault_54 : decode cX9_fault 54 = .ok (.ifCond .ge 9, 3) := by decide +kernel
theorem dX9_fault_57 : decode cX9_fault 57 = .ok (.iconst (-1), 1) := by decide +kernel
theorem dX9_fault_58 : decode cX9_fault 58 = .ok (.iload_n 1, 1) := by decide +kernel
theorem dX9_fault_59 : decode cX9_fault 59 = .ok (.isub, 1) := by decide +kernel
theorem dX9_fault_60 : decode cX9_fault 60 = .ok (.goto 4, 3) := by decide +kernel
theorem dX9_fault_63 : decode cX9_fault 63 = .ok (.iconst (-1), 1) := by decide +kernel
theorem dX9_fault_64 : decode cX9_fault 64 = .ok (.ireturn, 1) := by decide +kernel
theorem dX9_number_0 : decode cX9_number 0 = .ok (.iconst 0, 1) := by decide +kernel
theorem dX9_number_1 : decode cX9_number 1 = .ok (.istore_n 3, 1) := by decide +kernel
theorem dX9_number_2 : decode cX9_number 2 = .ok (.iload_n 1, 1) := by decide +kernel
theorem dX9_number_3 : decode cX9_number 3 = .ok (.istore 4, 2) := by decide +kernel
theorem dX9_number_5 : decode cX9_number 5 = .ok (.iload 4, 2) := by decide +kernel
theorem dX9_number_7 : decode cX9_number 7 = .ok (.iload_n 2, 1) := by decide +kernel
theorem dX9_number_8 : decode cX9_number 8 = .ok (.if_icmp .ge 25, 3) := by decide +kernel
theorem dX9_number_11 : decode cX9_number 11 = .ok (.bipush 10, 2) := by decide +kernel
theorem dX9_number_13 : decode cX9_number 13 = .ok (.iload_n 3, 1) := by decide +kernel
theorem dX9_number_14 : decode cX9_number 14 = .ok (.imul, 1) := by decide +kernel
theorem dX9_number_15 : decode cX9_number 15 = .ok (.aload_n 0, 1) := by decide +kernel
theorem dX9_number_16 : decode cX9_number 16 = .ok (.getfield 52, 3) := by decide +kernel
theorem dX9_number_19 : decode cX9_number 19 = .ok (.iload 4, 2) := by decide +kernel
theorem dX9_number_21 : decode cX9_number 21 = .ok (.iaload, 1) := by decide +kernel
theorem dX9_number_22 : decode cX9_number 22 = .ok (.iadd, 1) := by decide +kernel
theorem dX9_number_23 : decode cX9_number 23 = .ok (.bipush 48, 2) := by decide +kernel
theorem dX9_number_25 : decode cX9_number 25 = .ok (.isub, 1) := by decide +kernel
theorem dX9_number_26 : decode cX9_number 26 = .ok (.istore_n 3, 1) := by decide +kernel
theorem dX9_number_27 : decode cX9_number 27 = .ok (.iinc 4 1, 3) := by decide +kernel
theorem dX9_number_30 : decode cX9_number 30 = .ok (.goto (-25), 3) := by decide +kernel
theorem dX9_number_33 : decode cX9_number 33 = .ok (.iload_n 3, 1) := by decide +kernel
theorem dX9_number_34 : decode cX9_number 34 = .ok (.ireturn, 1) := by decide +kernel
theorem dX9_does_0 : decode cX9_does 0 = .ok (.aload_n 0, 1) := by decide +kernel
theorem dX9_does_1 : decode cX9_does 1 = .ok (.iload_n 1, 1) := by decide +kernel
theorem dX9_does_2 : decode cX9_does 2 = .ok (.iconst 1, 1) := by decide +kernel
theorem dX9_does_3 : decode cX9_does 3 = .ok (.iadd, 1) := by decide +kernel
theorem dX9_does_4 : decode cX9_does 4 = .ok (.invokevirtual 141, 3) := by decide +kernel
theorem dX9_does_7 : decode cX9_does 7 = .ok (.istore_n 3, 1) := by decide +kernel
theorem dX9_does_8 : decode cX9_does 8 = .ok (.aload_n 0, 1) := by decide +kernel
theorem dX9_does_9 : decode cX9_does 9 = .ok (.getfield 52, 3) := by decide +kernel
theorem dX9_does_12 : decode cX9_does 12 = .ok (.iload_n 1, 1) := by decide +kernel
theorem dX9_does_13 : decode cX9_does 13 = .ok (.iaload, 1) := by decide +kernel
theorem dX9_does_14 : decode cX9_does 14 = .ok (.lookupswitch 179 #[(97, 71), (106, 126), (111, 86), (112, 50), (115, 101)], 50) := by decide +kernel
theorem dX9_does_64 : decode cX9_does 64 = .ok (.aload_n 0, 1) := by decide +kernel
theorem dX9_does_65 : decode cX9_does 65 = .ok (.aload_n 0, 1) := by decide +kernel
theorem dX9_does_66 : decode cX9_does 66 = .ok (.iload_n 1, 1) := by decide +kernel
theorem dX9_does_67 : decode cX9_does 67 = .ok (.iconst 1, 1) := by decide +kernel
theorem dX9_does_68 : decode cX9_does 68 = .ok (.iadd, 1) := by decide +kernel
theorem dX9_does_69 : decode cX9_does 69 = .ok (.iload_n 2, 1) := by decide +kernel
theorem dX9_does_70 : decode cX9_does 70 = .ok (.invokevirtual 150, 3) := by decide +kernel
theorem dX9_does_73 : decode cX9_does 73 = .ok (.invokevirtual 153, 3) := by decide +kernel
theorem dX9_does_76 : decode cX9_does 76 = .ok (.ifCond .lt 7, 3) := by decide +kernel
theorem dX9_does_79 : decode cX9_does 79 = .ok (.iconst 1, 1) := by decide +kernel
theorem dX9_does_80 : decode cX9_does 80 = .ok (.goto 4, 3) := by decide +kernel
theorem dX9_does_83 : decode cX9_does 83 = .ok (.iconst 0, 1) := by decide +kernel
theorem dX9_does_84 : decode cX9_does 84 = .ok (.ireturn, 1) := by decide +kernel
theorem dX9_does_85 : decode cX9_does 85 = .ok (.aload_n 0, 1) := by decide +kernel
theorem dX9_does_86 : decode cX9_does 86 = .ok (.iconst 0, 1) := by decide +kernel
theorem dX9_does_87 : decode cX9_does 87 = .ok (.iconst 0, 1) := by decide +kernel
theorem dX9_does_88 : decode cX9_does 88 = .ok (.invokevirtual 156, 3) := by decide +kernel
theorem dX9_does_91 : decode cX9_does 91 = .ok (.ifCond .lt 7, 3) := by decide +kernel
theorem dX9_does_94 : decode cX9_does 94 = .ok (.iconst 1, 1) := by decide +kernel
theorem dX9_does_95 : decode cX9_does 95 = .ok (.goto 4, 3) := by decide +kernel
theorem dX9_does_98 : decode cX9_does 98 = .ok (.iconst 0, 1) := by decide +kernel
theorem dX9_does_99 : decode cX9_does 99 = .ok (.ireturn, 1) := by decide +kernel
theorem dX9_does_100 : decode cX9_does 100 = .ok (.aload_n 0, 1) := by decide +kernel
theorem dX9_does_101 : decode cX9_does 101 = .ok (.iconst 1, 1) := by decide +kernel
theorem dX9_does_102 : decode cX9_does 102 = .ok (.iconst 0, 1) := by decide +kernel
theorem dX9_does_103 : decode cX9_does 103 = .ok (.invokevirtual 156, 3) := by decide +kernel
theorem dX9_does_106 : decode cX9_does 106 = .ok (.ifCond .lt 7, 3) := by decide +kernel
theorem dX9_does_109 : decode cX9_does 109 = .ok (.iconst 1, 1) := by decide +kernel
theorem dX9_does_110 : decode cX9_does 110 = .ok (.goto 4, 3) := by decide +kernel
theorem dX9_does_113 : decode cX9_does 113 = .ok (.iconst 0, 1) := by decide +kernel
theorem dX9_does_114 : decode cX9_does 114 = .ok (.ireturn, 1) := by decide +kernel
theorem dX9_does_115 : decode cX9_does 115 = .ok (.aload_n 0, 1) := by decide +kernel
theorem dX9_does_116 : decode cX9_does 116 = .ok (.iconst 2, 1) := by decide +kernel
theorem dX9_does_117 : decode cX9_does 117 = .ok (.aload_n 0, 1) := by decide +kernel
theorem dX9_does_118 : decode cX9_does 118 = .ok (.getfield 52, 3) := by decide +kernel
theorem dX9_does_121 : decode cX9_does 121 = .ok (.iload_n 1, 1) := by decide +kernel
theorem dX9_does_122 : decode cX9_does 122 = .ok (.iconst 1, 1) := by decide +kernel
theorem dX9_does_123 : decode cX9_does 123 = .ok (.iadd, 1) := by decide +kernel
theorem dX9_does_124 : decode cX9_does 124 = .ok (.iaload, 1) := by decide +kernel
theorem dX9_does_125 : decode cX9_does 125 = .ok (.bipush 48, 2) := by decide +kernel
theorem dX9_does_127 : decode cX9_does 127 = .ok (.isub, 1) := by decide +kernel
theorem dX9_does_128 : decode cX9_does 128 = .ok (.invokevirtual 156, 3) := by decide +kernel
theorem dX9_does_131 : decode cX9_does 131 = .ok (.ifCond .lt 7, 3) := by decide +kernel
theorem dX9_does_134 : decode cX9_does 134 = .ok (.iconst 1, 1) := by decide +kernel
theorem dX9_does_135 : decode cX9_does 135 = .ok (.goto 4, 3) := by decide +kernel
theorem dX9_does_138 : decode cX9_does 138 = .ok (.iconst 0, 1) := by decide +kernel
theorem dX9_does_139 : decode cX9_does 139 = .ok (.ireturn, 1) := by decide +kernel
theorem dX9_does_140 : decode cX9_does 140 = .ok (.aload_n 0, 1) := by decide +kernel
theorem dX9_does_141 : decode cX9_does 141 = .ok (.aload_n 0, 1) := by decide +kernel
theorem dX9_does_142 : decode cX9_does 142 = .ok (.getfield 52, 3) := by decide +kernel
theorem dX9_does_145 : decode cX9_does 145 = .ok (.iload_n 1, 1) := by decide +kernel
theorem dX9_does_146 : decode cX9_does 146 = .ok (.iconst 1, 1) := by decide +kernel
theorem dX9_does_147 : decode cX9_does 147 = .ok (.iadd, 1) := by decide +kernel
theorem dX9_does_148 : decode cX9_does 148 = .ok (.iaload, 1) := by decide +kernel
theorem dX9_does_149 : decode cX9_does 149 = .ok (.bipush 48, 2) := by decide +kernel
theorem dX9_does_151 : decode cX9_does 151 = .ok (.isub, 1) := by decide +kernel
theorem dX9_does_152 : decode cX9_does 152 = .ok (.aload_n 0, 1) := by decide +kernel
theorem dX9_does_153 : decode cX9_does 153 = .ok (.getfield 52, 3) := by decide +kernel
theorem dX9_does_156 : decode cX9_does 156 = .ok (.iload_n 1, 1) := by decide +kernel
theorem dX9_does_157 : decode cX9_does 157 = .ok (.iconst 2, 1) := by decide +kernel
theorem dX9_does_158 : decode cX9_does 158 = .ok (.iadd, 1) := by decide +kernel
theorem dX9_does_159 : decode cX9_does 159 = .ok (.iaload, 1) := by decide +kernel
theorem dX9_does_160 : decode cX9_does 160 = .ok (.bipush 112, 2) := by decide +kernel
theorem dX9_does_162 : decode cX9_does 162 = .ok (.if_icmp .ne 7, 3) := by decide +kernel
theorem dX9_does_165 : decode cX9_does 165 = .ok (.iconst 1, 1) := by decide +kernel
theorem dX9_does_166 : decode cX9_does 166 = .ok (.goto 4, 3) := by decide +kernel
theorem dX9_does_169 : decode cX9_does 169 = .ok (.iconst 0, 1) := by decide +kernel
theorem dX9_does_170 : decode cX9_does 170 = .ok (.aload_n 0, 1) := by decide +kernel
theorem dX9_does_171 : decode cX9_does 171 = .ok (.getfield 52, 3) := by decide +kernel
theorem dX9_does_174 : decode cX9_does 174 = .ok (.iload_n 1, 1) := by decide +kernel
theorem dX9_does_175 : decode cX9_does 175 = .ok (.iconst 3, 1) := by decide +kernel
theorem dX9_does_176 : decode cX9_does 176 = .ok (.iadd, 1) := by decide +kernel
theorem dX9_does_177 : decode cX9_does 177 = .ok (.iaload, 1) := by decide +kernel
theorem dX9_does_178 : decode cX9_does 178 = .ok (.bipush 48, 2) := by decide +kernel
theorem dX9_does_180 : decode cX9_does 180 = .ok (.isub, 1) := by decide +kernel
theorem dX9_does_181 : decode cX9_does 181 = .ok (.invokevirtual 159, 3) := by decide +kernel
theorem dX9_does_184 : decode cX9_does 184 = .ok (.ifCond .lt 7, 3) := by decide +kernel
theorem dX9_does_187 : decode cX9_does 187 = .ok (.iconst 1, 1) := by decide +kernel
theorem dX9_does_188 : decode cX9_does 188 = .ok (.goto 4, 3) := by decide +kernel
theorem dX9_does_191 : decode cX9_does 191 = .ok (.iconst 0, 1) := by decide +kernel
theorem dX9_does_192 : decode cX9_does 192 = .ok (.ireturn, 1) := by decide +kernel
theorem dX9_does_193 : decode cX9_does 193 = .ok (.iconst 0, 1) := by decide +kernel
theorem dX9_does_194 : decode cX9_does 194 = .ok (.istore 4, 2) := by decide +kernel
theorem dX9_does_196 : decode cX9_does 196 = .ok (.iload_n 3, 1) := by decide +kernel
theorem dX9_does_197 : decode cX9_does 197 = .ok (.istore 5, 2) := by decide +kernel
theorem dX9_does_199 : decode cX9_does 199 = .ok (.iload 5, 2) := by decide +kernel
theorem dX9_does_201 : decode cX9_does 201 = .ok (.iload_n 2, 1) := by decide +kernel
theorem dX9_does_202 : decode cX9_does 202 = .ok (.if_icmp .ge 28, 3) := by decide +kernel
theorem dX9_does_205 : decode cX9_does 205 = .ok (.iload 4, 2) := by decide +kernel
theorem dX9_does_207 : decode cX9_does 207 = .ok (.iconst 1, 1) := by decide +kernel
theorem dX9_does_208 : decode cX9_does 208 = .ok (.aload_n 0, 1) := by decide +kernel
theorem dX9_does_209 : decode cX9_does 209 = .ok (.getfield 52, 3) := by decide +kernel
theorem dX9_does_212 : decode cX9_does 212 = .ok (.iload 5, 2) := by decide +kernel
theorem dX9_does_214 : decode cX9_does 214 = .ok (.iconst 1, 1) := by decide +kernel
theorem dX9_does_215 : decode cX9_does 215 = .ok (.iadd, 1) := by decide +kernel
theorem dX9_does_216 : decode cX9_does 216 = .ok (.iaload, 1) := by decide +kernel
theorem dX9_does_217 : decode cX9_does 217 = .ok (.bipush 48, 2) := by decide +kernel
theorem dX9_does_219 : decode cX9_does 219 = .ok (.isub, 1) := by decide +kernel
theorem dX9_does_220 : decode cX9_does 220 = .ok (.ishl, 1) := by decide +kernel
theorem dX9_does_221 : decode cX9_does 221 = .ok (.ior, 1) := by decide +kernel
theorem dX9_does_222 : decode cX9_does 222 = .ok (.istore 4, 2) := by decide +kernel
theorem dX9_does_224 : decode cX9_does 224 = .ok (.iinc 5 2, 3) := by decide +kernel
theorem dX9_does_227 : decode cX9_does 227 = .ok (.goto (-28), 3) := by decide +kernel
theorem dX9_does_230 : decode cX9_does 230 = .ok (.aload_n 0, 1) := by decide +kernel
theorem dX9_does_231 : decode cX9_does 231 = .ok (.aload_n 0, 1) := by decide +kernel
theorem dX9_does_232 : decode cX9_does 232 = .ok (.iload_n 1, 1) := by decide +kernel
theorem dX9_does_233 : decode cX9_does 233 = .ok (.iconst 1, 1) := by decide +kernel
theorem dX9_does_234 : decode cX9_does 234 = .ok (.iadd, 1) := by decide +kernel
theorem dX9_does_235 : decode cX9_does 235 = .ok (.iload_n 3, 1) := by decide +kernel
theorem dX9_does_236 : decode cX9_does 236 = .ok (.invokevirtual 150, 3) := by decide +kernel
theorem dX9_does_239 : decode cX9_does 239 = .ok (.iload 4, 2) := by decide +kernel
theorem dX9_does_241 : decode cX9_does 241 = .ok (.invokevirtual 163, 3) := by decide +kernel
theorem dX9_does_244 : decode cX9_does 244 = .ok (.ifCond .lt 7, 3) := by decide +kernel
theorem dX9_does_247 : decode cX9_does 247 = .ok (.iconst 1, 1) := by decide +kernel
theorem dX9_does_248 : decode cX9_does 248 = .ok (.goto 4, 3) := by decide +kernel
theorem dX9_does_251 : decode cX9_does 251 = .ok (.iconst 0, 1) := by decide +kernel
theorem dX9_does_252 : decode cX9_does 252 = .ok (.ireturn, 1) := by decide +kernel
theorem dX9_read_0 : decode cX9_read 0 = .ok (.aload_n 0, 1) := by decide +kernel
theorem dX9_read_1 : decode cX9_read 1 = .ok (.invokevirtual 166, 3) := by decide +kernel
theorem dX9_read_4 : decode cX9_read 4 = .ok (.istore_n 1, 1) := by decide +kernel
theorem dX9_read_5 : decode cX9_read 5 = .ok (.iconst 0, 1) := by decide +kernel
theorem dX9_read_6 : decode cX9_read 6 = .ok (.istore_n 2, 1) := by decide +kernel
theorem dX9_read_7 : decode cX9_read 7 = .ok (.iconst 0, 1) := by decide +kernel
theorem dX9_read_8 : decode cX9_read 8 = .ok (.istore_n 3, 1) := by decide +kernel
theorem dX9_read_9 : decode cX9_read 9 = .ok (.iload_n 1, 1) := by decide +kernel
theorem dX9_read_10 : decode cX9_read 10 = .ok (.ifCond .ge 39, 3) := by decide +kernel
theorem dX9_read_13 : decode cX9_read 13 = .ok (.iload_n 3, 1) := by decide +kernel
theorem dX9_read_14 : decode cX9_read 14 = .ok (.aload_n 0, 1) := by decide +kernel
theorem dX9_read_15 : decode cX9_read 15 = .ok (.getfield 132, 3) := by decide +kernel
theorem dX9_read_18 : decode cX9_read 18 = .ok (.if_icmp .ge 31, 3) := by decide +kernel
theorem dX9_read_21 : decode cX9_read 21 = .ok (.aload_n 0, 1) := by decide +kernel
theorem dX9_read_22 : decode cX9_read 22 = .ok (.iload_n 3, 1) := by decide +kernel
theorem dX9_read_23 : decode cX9_read 23 = .ok (.invokevirtual 147, 3) := by decide +kernel
theorem dX9_read_26 : decode cX9_read 26 = .ok (.istore 4, 2) := by decide +kernel
theorem dX9_read_28 : decode cX9_read 28 = .ok (.aload_n 0, 1) := by decide +kernel
theorem dX9_read_29 : decode cX9_read 29 = .ok (.iload_n 3, 1) := by decide +kernel
theorem dX9_read_30 : decode cX9_read 30 = .ok (.iload 4, 2) := by decide +kernel
theorem dX9_read_32 : decode cX9_read 32 = .ok (.invokevirtual 169, 3) := by decide +kernel
theorem dX9_read_35 : decode cX9_read 35 = .ok (.ifCond .eq 6, 3) := by decide +kernel
theorem dX9_read_38 : decode cX9_read 38 = .ok (.iinc 2 1, 3) := by decide +kernel
theorem dX9_read_41 : decode cX9_read 41 = .ok (.iload 4, 2) := by decide +kernel
theorem dX9_read_43 : decode cX9_read 43 = .ok (.iconst 1, 1) := by decide +kernel
theorem dX9_read_44 : decode cX9_read 44 = .ok (.iadd, 1) := by decide +kernel
theorem dX9_read_45 : decode cX9_read 45 = .ok (.istore_n 3, 1) := by decide +kernel
theorem dX9_read_46 : decode cX9_read 46 = .ok (.goto (-37), 3) := by decide +kernel
theorem dX9_read_49 : decode cX9_read 49 = .ok (.aload_n 0, 1) := by decide +kernel
theorem dX9_read_50 : decode cX9_read 50 = .ok (.iconst 0, 1) := by decide +kernel
theorem dX9_read_51 : decode cX9_read 51 = .ok (.putfield 132, 3) := by decide +kernel
theorem dX9_read_54 : decode cX9_read 54 = .ok (.iload_n 1, 1) := by decide +kernel
theorem dX9_read_55 : decode cX9_read 55 = .ok (.ifCond .lt 10, 3) := by decide +kernel
theorem dX9_read_58 : decode cX9_read 58 = .ok (.bipush (-10), 2) := by decide +kernel
theorem dX9_read_60 : decode cX9_read 60 = .ok (.iload_n 1, 1) := by decide +kernel
theorem dX9_read_61 : decode cX9_read 61 = .ok (.isub, 1) := by decide +kernel
theorem dX9_read_62 : decode cX9_read 62 = .ok (.goto 4, 3) := by decide +kernel
theorem dX9_read_65 : decode cX9_read 65 = .ok (.iload_n 2, 1) := by decide +kernel
theorem dX9_read_66 : decode cX9_read 66 = .ok (.ireturn, 1) := by decide +kernel
theorem dX9_fallsBy_0 : decode cX9_fallsBy 0 = .ok (.aload_n 0, 1) := by decide +kernel
theorem dX9_fallsBy_1 : decode cX9_fallsBy 1 = .ok (.getfield 18, 3) := by decide +kernel
theorem dX9_fallsBy_4 : decode cX9_fallsBy 4 = .ok (.iload_n 1, 1) := by decide +kernel
theorem dX9_fallsBy_5 : decode cX9_fallsBy 5 = .ok (.iaload, 1) := by decide +kernel
theorem dX9_fallsBy_6 : decode cX9_fallsBy 6 = .ok (.ifCond .ne 21, 3) := by decide +kernel
theorem dX9_fallsBy_9 : decode cX9_fallsBy 9 = .ok (.iload_n 2, 1) := by decide +kernel
theorem dX9_fallsBy_10 : decode cX9_fallsBy 10 = .ok (.aload_n 0, 1) := by decide +kernel
theorem dX9_fallsBy_11 : decode cX9_fallsBy 11 = .ok (.getfield 24, 3) := by decide +kernel
theorem dX9_fallsBy_14 : decode cX9_fallsBy 14 = .ok (.iload_n 1, 1) := by decide +kernel
theorem dX9_fallsBy_15 : decode cX9_fallsBy 15 = .ok (.iaload, 1) := by decide +kernel
theorem dX9_fallsBy_16 : decode cX9_fallsBy 16 = .ok (.if_icmp .ne 7, 3) := by decide +kernel
theorem dX9_fallsBy_19 : decode cX9_fallsBy 19 = .ok (.iconst 1, 1) := by decide +kernel
theorem dX9_fallsBy_20 : decode cX9_fallsBy 20 = .ok (.goto 44, 3) := by decide +kernel
theorem dX9_fallsBy_23 : decode cX9_fallsBy 23 = .ok (.iconst 0, 1) := by decide +kernel
theorem dX9_fallsBy_24 : decode cX9_fallsBy 24 = .ok (.goto 40, 3) := by decide +kernel
theorem dX9_fallsBy_27 : decode cX9_fallsBy 27 = .ok (.aload_n 0, 1) := by decide +kernel
theorem dX9_fallsBy_28 : decode cX9_fallsBy 28 = .ok (.getfield 18, 3) := by decide +kernel
theorem dX9_fallsBy_31 : decode cX9_fallsBy 31 = .ok (.iload_n 1, 1) := by decide +kernel
theorem dX9_fallsBy_32 : decode cX9_fallsBy 32 = .ok (.iaload, 1) := by decide +kernel
theorem dX9_fallsBy_33 : decode cX9_fallsBy 33 = .ok (.iconst 1, 1) := by decide +kernel
theorem dX9_fallsBy_34 : decode cX9_fallsBy 34 = .ok (.if_icmp .ne 15, 3) := by decide +kernel
theorem dX9_fallsBy_37 : decode cX9_fallsBy 37 = .ok (.iload_n 2, 1) := by decide +kernel
theorem dX9_fallsBy_38 : decode cX9_fallsBy 38 = .ok (.ifCond .le 7, 3) := by decide +kernel
theorem dX9_fallsBy_41 : decode cX9_fallsBy 41 = .ok (.iconst 1, 1) := by decide +kernel
theorem dX9_fallsBy_42 : decode cX9_fallsBy 42 = .ok (.goto 22, 3) := by decide +kernel
theorem dX9_fallsBy_45 : decode cX9_fallsBy 45 = .ok (.iconst 0, 1) := by decide +kernel
theorem dX9_fallsBy_46 : decode cX9_fallsBy 46 = .ok (.goto 18, 3) := by decide +kernel
theorem dX9_fallsBy_49 : decode cX9_fallsBy 49 = .ok (.iload_n 2, 1) := by decide +kernel
theorem dX9_fallsBy_50 : decode cX9_fallsBy 50 = .ok (.aload_n 0, 1) := by decide +kernel
theorem dX9_fallsBy_51 : decode cX9_fallsBy 51 = .ok (.getfield 21, 3) := by decide +kernel
theorem dX9_fallsBy_54 : decode cX9_fallsBy 54 = .ok (.iload_n 1, 1) := by decide +kernel
theorem dX9_fallsBy_55 : decode cX9_fallsBy 55 = .ok (.iaload, 1) := by decide +kernel
theorem dX9_fallsBy_56 : decode cX9_fallsBy 56 = .ok (.if_icmp .lt 7, 3) := by decide +kernel
theorem dX9_fallsBy_59 : decode cX9_fallsBy 59 = .ok (.iconst 1, 1) := by decide +kernel
theorem dX9_fallsBy_60 : decode cX9_fallsBy 60 = .ok (.goto 4, 3) := by decide +kernel
theorem dX9_fallsBy_63 : decode cX9_fallsBy 63 = .ok (.iconst 0, 1) := by decide +kernel
theorem dX9_fallsBy_64 : decode cX9_fallsBy 64 = .ok (.ireturn, 1) := by decide +kernel
theorem dX9_fallsAt_0 : decode cX9_fallsAt 0 = .ok (.iconst 0, 1) := by decide +kernel
theorem dX9_fallsAt_1 : decode cX9_fallsAt 1 = .ok (.istore_n 3, 1) := by decide +kernel
theorem dX9_fallsAt_2 : decode cX9_fallsAt 2 = .ok (.iload_n 3, 1) := by decide +kernel
theorem dX9_fallsAt_3 : decode cX9_fallsAt 3 = .ok (.iload_n 1, 1) := by decide +kernel
theorem dX9_fallsAt_4 : decode cX9_fallsAt 4 = .ok (.if_icmp .gt 94, 3) := by decide +kernel
theorem dX9_fallsAt_7 : decode cX9_fallsAt 7 = .ok (.iconst 0, 1) := by decide +kernel
theorem dX9_fallsAt_8 : decode cX9_fallsAt 8 = .ok (.istore 4, 2) := by decide +kernel
theorem dX9_fallsAt_10 : decode cX9_fallsAt 10 = .ok (.iconst 0, 1) := by decide +kernel
theorem dX9_fallsAt_11 : decode cX9_fallsAt 11 = .ok (.istore 5, 2) := by decide +kernel
theorem dX9_fallsAt_13 : decode cX9_fallsAt 13 = .ok (.iload 5, 2) := by decide +kernel
theorem dX9_fallsAt_15 : decode cX9_fallsAt 15 = .ok (.aload_n 0, 1) := by decide +kernel
theorem dX9_fallsAt_16 : decode cX9_fallsAt 16 = .ok (.getfield 24, 3) := by decide +kernel
theorem dX9_fallsAt_19 : decode cX9_fallsAt 19 = .ok (.iload_n 3, 1) := by decide +kernel
theorem dX9_fallsAt_20 : decode cX9_fallsAt 20 = .ok (.iaload, 1) := by decide +kernel
theorem dX9_fallsAt_21 : decode cX9_fallsAt 21 = .ok (.if_icmp .ge 58, 3) := by decide +kernel
theorem dX9_fallsAt_24 : decode cX9_fallsAt 24 = .ok (.aload_n 0, 1) := by decide +kernel
theorem dX9_fallsAt_25 : decode cX9_fallsAt 25 = .ok (.getfield 27, 3) := by decide +kernel
theorem dX9_fallsAt_28 : decode cX9_fallsAt 28 = .ok (.iconst 4, 1) := by decide +kernel
theorem dX9_fallsAt_29 : decode cX9_fallsAt 29 = .ok (.iload_n 3, 1) := by decide +kernel
theorem dX9_fallsAt_30 : decode cX9_fallsAt 30 = .ok (.imul, 1) := by decide +kernel
theorem dX9_fallsAt_31 : decode cX9_fallsAt 31 = .ok (.iload 5, 2) := by decide +kernel
theorem dX9_fallsAt_33 : decode cX9_fallsAt 33 = .ok (.iadd, 1) := by decide +kernel
theorem dX9_fallsAt_34 : decode cX9_fallsAt 34 = .ok (.iaload, 1) := by decide +kernel
theorem dX9_fallsAt_35 : decode cX9_fallsAt 35 = .ok (.istore 6, 2) := by decide +kernel
theorem dX9_fallsAt_37 : decode cX9_fallsAt 37 = .ok (.iload 6, 2) := by decide +kernel
theorem dX9_fallsAt_39 : decode cX9_fallsAt 39 = .ok (.bipush 10, 2) := by decide +kernel
theorem dX9_fallsAt_41 : decode cX9_fallsAt 41 = .ok (.if_icmp .lt 19, 3) := by decide +kernel
theorem dX9_fallsAt_44 : decode cX9_fallsAt 44 = .ok (.aload_n 0, 1) := by decide +kernel
theorem dX9_fallsAt_45 : decode cX9_fallsAt 45 = .ok (.getfield 55, 3) := by decide +kernel
theorem dX9_fallsAt_48 : decode cX9_fallsAt 48 = .ok (.iload 6, 2) := by decide +kernel
theorem dX9_fallsAt_50 : decode cX9_fallsAt 50 = .ok (.bipush 10, 2) := by decide +kernel
theorem dX9_fallsAt_52 : decode cX9_fallsAt 52 = .ok (.isub, 1) := by decide +kernel
theorem dX9_fallsAt_53 : decode cX9_fallsAt 53 = .ok (.baload, 1) := by decide +kernel
theorem dX9_fallsAt_54 : decode cX9_fallsAt 54 = .ok (.ifCond .eq 19, 3) := by decide +kernel
theorem dX9_fallsAt_57 : decode cX9_fallsAt 57 = .ok (.goto 13, 3) := by decide +kernel
theorem dX9_fallsAt_60 : decode cX9_fallsAt 60 = .ok (.iload_n 2, 1) := by decide +kernel
theorem dX9_fallsAt_61 : decode cX9_fallsAt 61 = .ok (.iload 6, 2) := by decide +kernel
theorem dX9_fallsAt_63 : decode cX9_fallsAt 63 = .ok (.ishr, 1) := by decide +kernel
theorem dX9_fallsAt_64 : decode cX9_fallsAt 64 = .ok (.iconst 1, 1) := by decide +kernel
theorem dX9_fallsAt_65 : decode cX9_fallsAt 65 = .ok (.iand, 1) := by decide +kernel
theorem dX9_fallsAt_66 : decode cX9_fallsAt 66 = .ok (.iconst 1, 1) := by decide +kernel
theorem dX9_fallsAt_67 : decode cX9_fallsAt 67 = .ok (.if_icmp .ne 6, 3) := by decide +kernel
theorem dX9_fallsAt_70 : decode cX9_fallsAt 70 = .ok (.iinc 4 1, 3) := by decide +kernel
theorem dX9_fallsAt_73 : decode cX9_fallsAt 73 = .ok (.iinc 5 1, 3) := by decide +kernel
theorem dX9_fallsAt_76 : decode cX9_fallsAt 76 = .ok (.goto (-63), 3) := by decide +kernel
theorem dX9_fallsAt_79 : decode cX9_fallsAt 79 = .ok (.aload_n 0, 1) := by decide +kernel
theorem dX9_fallsAt_80 : decode cX9_fallsAt 80 = .ok (.getfield 55, 3) := by decide +kernel
theorem dX9_fallsAt_83 : decode cX9_fallsAt 83 = .ok (.iload_n 3, 1) := by decide +kernel
theorem dX9_fallsAt_84 : decode cX9_fallsAt 84 = .ok (.aload_n 0, 1) := by decide +kernel
theorem dX9_fallsAt_85 : decode cX9_fallsAt 85 = .ok (.iload_n 3, 1) := by decide +kernel
theorem dX9_fallsAt_86 : decode cX9_fallsAt 86 = .ok (.iload 4, 2) := by decide +kernel
theorem dX9_fallsAt_88 : decode cX9_fallsAt 88 = .ok (.invokevirtual 172, 3) := by decide +kernel
theorem dX9_fallsAt_91 : decode cX9_fallsAt 91 = .ok (.bastore, 1) := by decide +kernel
theorem dX9_fallsAt_92 : decode cX9_fallsAt 92 = .ok (.iinc 3 1, 3) := by decide +kernel
theorem dX9_fallsAt_95 : decode cX9_fallsAt 95 = .ok (.goto (-93), 3) := by decide +kernel
theorem dX9_fallsAt_98 : decode cX9_fallsAt 98 = .ok (.aload_n 0, 1) := by decide +kernel
theorem dX9_fallsAt_99 : decode cX9_fallsAt 99 = .ok (.getfield 55, 3) := by decide +kernel
theorem dX9_fallsAt_102 : decode cX9_fallsAt 102 = .ok (.iload_n 1, 1) := by decide +kernel
theorem dX9_fallsAt_103 : decode cX9_fallsAt 103 = .ok (.baload, 1) := by decide +kernel
theorem dX9_fallsAt_104 : decode cX9_fallsAt 104 = .ok (.ireturn, 1) := by decide +kernel
theorem dX9_isDown_0 : decode cX9_isDown 0 = .ok (.aload_n 0, 1) := by decide +kernel
theorem dX9_isDown_1 : decode cX9_isDown 1 = .ok (.aload_n 0, 1) := by decide +kernel
theorem dX9_isDown_2 : decode cX9_isDown 2 = .ok (.invokevirtual 114, 3) := by decide +kernel
theorem dX9_isDown_5 : decode cX9_isDown 5 = .ok (.iload_n 1, 1) := by decide +kernel
theorem dX9_isDown_6 : decode cX9_isDown 6 = .ok (.invokevirtual 175, 3) := by decide +kernel
theorem dX9_isDown_9 : decode cX9_isDown 9 = .ok (.ireturn, 1) := by decide +kernel
theorem dX9_fails_0 : decode cX9_fails 0 = .ok (.aload_n 0, 1) := by decide +kernel
theorem dX9_fails_1 : decode cX9_fails 1 = .ok (.getfield 97, 3) := by decide +kernel
theorem dX9_fails_4 : decode cX9_fails 4 = .ok (.ifCond .eq 16, 3) := by decide +kernel
theorem dX9_fails_7 : decode cX9_fails 7 = .ok (.iload_n 1, 1) := by decide +kernel
theorem dX9_fails_8 : decode cX9_fails 8 = .ok (.iconst (-1), 1) := by decide +kernel
theorem dX9_fails_9 : decode cX9_fails 9 = .ok (.if_icmp .eq 13, 3) := by decide +kernel
theorem dX9_fails_12 : decode cX9_fails 12 = .ok (.aload_n 0, 1) := by decide +kernel
theorem dX9_fails_13 : decode cX9_fails 13 = .ok (.iload_n 1, 1) := by decide +kernel
theorem dX9_fails_14 : decode cX9_fails 14 = .ok (.invokevirtual 108, 3) := by decide +kernel
theorem dX9_fails_17 : decode cX9_fails 17 = .ok (.ifCond .ne 5, 3) := by decide +kernel
theorem dX9_fails_20 : decode cX9_fails 20 = .ok (.iconst (-1), 1) := by decide +kernel
theorem dX9_fails_21 : decode cX9_fails 21 = .ok (.ireturn, 1) := by decide +kernel
theorem dX9_fails_22 : decode cX9_fails 22 = .ok (.aload_n 0, 1) := by decide +kernel
theorem dX9_fails_23 : decode cX9_fails 23 = .ok (.iload_n 2, 1) := by decide +kernel
theorem dX9_fails_24 : decode cX9_fails 24 = .ok (.invokevirtual 118, 3) := by decide +kernel
theorem dX9_fails_27 : decode cX9_fails 27 = .ok (.ifCond .ne 6, 3) := by decide +kernel
theorem dX9_fails_30 : decode cX9_fails 30 = .ok (.bipush (-2), 2) := by decide +kernel
theorem dX9_fails_32 : decode cX9_fails 32 = .ok (.ireturn, 1) := by decide +kernel
theorem dX9_fails_33 : decode cX9_fails 33 = .ok (.aload_n 0, 1) := by decide +kernel
theorem dX9_fails_34 : decode cX9_fails 34 = .ok (.iload_n 1, 1) := by decide +kernel
theorem dX9_fails_35 : decode cX9_fails 35 = .ok (.iconst (-1), 1) := by decide +kernel
theorem dX9_fails_36 : decode cX9_fails 36 = .ok (.if_icmp .ne 10, 3) := by decide +kernel
theorem dX9_fails_39 : decode cX9_fails 39 = .ok (.aload_n 0, 1) := by decide +kernel
theorem dX9_fails_40 : decode cX9_fails 40 = .ok (.invokevirtual 114, 3) := by decide +kernel
theorem dX9_fails_43 : decode cX9_fails 43 = .ok (.goto 4, 3) := by decide +kernel
theorem dX9_fails_46 : decode cX9_fails 46 = .ok (.iload_n 1, 1) := by decide +kernel
theorem dX9_fails_47 : decode cX9_fails 47 = .ok (.iload_n 2, 1) := by decide +kernel
theorem dX9_fails_48 : decode cX9_fails 48 = .ok (.invokevirtual 175, 3) := by decide +kernel
theorem dX9_fails_51 : decode cX9_fails 51 = .ok (.ifCond .eq 7, 3) := by decide +kernel
theorem dX9_fails_54 : decode cX9_fails 54 = .ok (.iconst 1, 1) := by decide +kernel
theorem dX9_fails_55 : decode cX9_fails 55 = .ok (.goto 4, 3) := by decide +kernel
theorem dX9_fails_58 : decode cX9_fails 58 = .ok (.iconst 0, 1) := by decide +kernel
theorem dX9_fails_59 : decode cX9_fails 59 = .ok (.ireturn, 1) := by decide +kernel
theorem dX9_goes_0 : decode cX9_goes 0 = .ok (.aload_n 0, 1) := by decide +kernel
theorem dX9_goes_1 : decode cX9_goes 1 = .ok (.getfield 15, 3) := by decide +kernel
theorem dX9_goes_4 : decode cX9_goes 4 = .ok (.iload_n 1, 1) := by decide +kernel
theorem dX9_goes_5 : decode cX9_goes 5 = .ok (.iaload, 1) := by decide +kernel
theorem dX9_goes_6 : decode cX9_goes 6 = .ok (.istore_n 3, 1) := by decide +kernel
theorem dX9_goes_7 : decode cX9_goes 7 = .ok (.iload_n 1, 1) := by decide +kernel
theorem dX9_goes_8 : decode cX9_goes 8 = .ok (.istore 4, 2) := by decide +kernel
theorem dX9_goes_10 : decode cX9_goes 10 = .ok (.iload 4, 2) := by decide +kernel
theorem dX9_goes_12 : decode cX9_goes 12 = .ok (.iload_n 2, 1) := by decide +kernel
theorem dX9_goes_13 : decode cX9_goes 13 = .ok (.if_icmp .ge 25, 3) := by decide +kernel
theorem dX9_goes_16 : decode cX9_goes 16 = .ok (.aload_n 0, 1) := by decide +kernel
theorem dX9_goes_17 : decode cX9_goes 17 = .ok (.getfield 15, 3) := by decide +kernel
theorem dX9_goes_20 : decode cX9_goes 20 = .ok (.iload 4, 2) := by decide +kernel
theorem dX9_goes_22 : decode cX9_goes 22 = .ok (.aload_n 0, 1) := by decide +kernel
theorem dX9_goes_23 : decode cX9_goes 23 = .ok (.getfield 15, 3) := by decide +kernel
theorem dX9_goes_26 : decode cX9_goes 26 = .ok (.iload 4, 2) := by decide +kernel
theorem dX9_goes_28 : decode cX9_goes 28 = .ok (.iconst 1, 1) := by decide +kernel
theorem dX9_goes_29 : decode cX9_goes 29 = .ok (.iadd, 1) := by decide +kernel
theorem dX9_goes_30 : decode cX9_goes 30 = .ok (.iaload, 1) := by decide +kernel
theorem dX9_goes_31 : decode cX9_goes 31 = .ok (.iastore, 1) := by decide +kernel
theorem dX9_goes_32 : decode cX9_goes 32 = .ok (.iinc 4 1, 3) := by decide +kernel
theorem dX9_goes_35 : decode cX9_goes 35 = .ok (.goto (-25), 3) := by decide +kernel
theorem dX9_goes_38 : decode cX9_goes 38 = .ok (.iload_n 1, 1) := by decide +kernel
theorem dX9_goes_39 : decode cX9_goes 39 = .ok (.istore 4, 2) := by decide +kernel
theorem dX9_goes_41 : decode cX9_goes 41 = .ok (.iload 4, 2) := by decide +kernel
theorem dX9_goes_43 : decode cX9_goes 43 = .ok (.iload_n 2, 1) := by decide +kernel
theorem dX9_goes_44 : decode cX9_goes 44 = .ok (.if_icmp .le 25, 3) := by decide +kernel
theorem dX9_goes_47 : decode cX9_goes 47 = .ok (.aload_n 0, 1) := by decide +kernel
theorem dX9_goes_48 : decode cX9_goes 48 = .ok (.getfield 15, 3) := by decide +kernel
theorem dX9_goes_51 : decode cX9_goes 51 = .ok (.iload 4, 2) := by decide +kernel
theorem dX9_goes_53 : decode cX9_goes 53 = .ok (.aload_n 0, 1) := by decide +kernel
end
section
theorem dX9_goes_54 : decode cX9_goes 54 = .ok (.getfield 15, 3) := by decide +kernel
theorem dX9_goes_57 : decode cX9_goes 57 = .ok (.iload 4, 2) := by decide +kernel
theorem dX9_goes_59 : decode cX9_goes 59 = .ok (.iconst 1, 1) := by decide +kernel
theorem dX9_goes_60 : decode cX9_goes 60 = .ok (.isub, 1) := by decide +kernel
theorem dX9_goes_61 : decode cX9_goes 61 = .ok (.iaload, 1) := by decide +kernel
theorem dX9_goes_62 : decode cX9_goes 62 = .ok (.iastore, 1) := by decide +kernel
theorem dX9_goes_63 : decode cX9_goes 63 = .ok (.iinc 4 (-1), 3) := by decide +kernel
theorem dX9_goes_66 : decode cX9_goes 66 = .ok (.goto (-25), 3) := by decide +kernel
theorem dX9_goes_69 : decode cX9_goes 69 = .ok (.aload_n 0, 1) := by decide +kernel
theorem dX9_goes_70 : decode cX9_goes 70 = .ok (.getfield 15, 3) := by decide +kernel
theorem dX9_goes_73 : decode cX9_goes 73 = .ok (.iload_n 2, 1) := by decide +kernel
theorem dX9_goes_74 : decode cX9_goes 74 = .ok (.iload_n 3, 1) := by decide +kernel
theorem dX9_goes_75 : decode cX9_goes 75 = .ok (.iastore, 1) := by decide +kernel
theorem dX9_goes_76 : decode cX9_goes 76 = .ok (.return_, 1) := by decide +kernel
theorem dX9_move_0 : decode cX9_move 0 = .ok (.aload_n 0, 1) := by decide +kernel
theorem dX9_move_1 : decode cX9_move 1 = .ok (.iload_n 1, 1) := by decide +kernel
theorem dX9_move_2 : decode cX9_move 2 = .ok (.invokevirtual 111, 3) := by decide +kernel
theorem dX9_move_5 : decode cX9_move 5 = .ok (.ifCond .ne 5, 3) := by decide +kernel
theorem dX9_move_8 : decode cX9_move 8 = .ok (.iconst (-1), 1) := by decide +kernel
theorem dX9_move_9 : decode cX9_move 9 = .ok (.ireturn, 1) := by decide +kernel
theorem dX9_move_10 : decode cX9_move 10 = .ok (.iload_n 2, 1) := by decide +kernel
theorem dX9_move_11 : decode cX9_move 11 = .ok (.iconst 0, 1) := by decide +kernel
theorem dX9_move_12 : decode cX9_move 12 = .ok (.aload_n 0, 1) := by decide +kernel
theorem dX9_move_13 : decode cX9_move 13 = .ok (.getfield 90, 3) := by decide +kernel
theorem dX9_move_16 : decode cX9_move 16 = .ok (.iconst 1, 1) := by decide +kernel
theorem dX9_move_17 : decode cX9_move 17 = .ok (.isub, 1) := by decide +kernel
theorem dX9_move_18 : decode cX9_move 18 = .ok (.invokestatic 93, 3) := by decide +kernel
theorem dX9_move_21 : decode cX9_move 21 = .ok (.ifCond .ne 6, 3) := by decide +kernel
theorem dX9_move_24 : decode cX9_move 24 = .ok (.bipush (-2), 2) := by decide +kernel
theorem dX9_move_26 : decode cX9_move 26 = .ok (.ireturn, 1) := by decide +kernel
theorem dX9_move_27 : decode cX9_move 27 = .ok (.aload_n 0, 1) := by decide +kernel
theorem dX9_move_28 : decode cX9_move 28 = .ok (.iload_n 1, 1) := by decide +kernel
theorem dX9_move_29 : decode cX9_move 29 = .ok (.invokevirtual 124, 3) := by decide +kernel
theorem dX9_move_32 : decode cX9_move 32 = .ok (.istore_n 3, 1) := by decide +kernel
theorem dX9_move_33 : decode cX9_move 33 = .ok (.aload_n 0, 1) := by decide +kernel
theorem dX9_move_34 : decode cX9_move 34 = .ok (.iload_n 3, 1) := by decide +kernel
theorem dX9_move_35 : decode cX9_move 35 = .ok (.iload_n 2, 1) := by decide +kernel
theorem dX9_move_36 : decode cX9_move 36 = .ok (.invokevirtual 178, 3) := by decide +kernel
theorem dX9_move_39 : decode cX9_move 39 = .ok (.iload_n 3, 1) := by decide +kernel
theorem dX9_move_40 : decode cX9_move 40 = .ok (.ireturn, 1) := by decide +kernel
theorem dX9_at_0 : decode cX9_at 0 = .ok (.iload_n 1, 1) := by decide +kernel
theorem dX9_at_1 : decode cX9_at 1 = .ok (.iconst 0, 1) := by decide +kernel
theorem dX9_at_2 : decode cX9_at 2 = .ok (.aload_n 0, 1) := by decide +kernel
theorem dX9_at_3 : decode cX9_at 3 = .ok (.getfield 90, 3) := by decide +kernel
theorem dX9_at_6 : decode cX9_at 6 = .ok (.iconst 1, 1) := by decide +kernel
theorem dX9_at_7 : decode cX9_at 7 = .ok (.isub, 1) := by decide +kernel
theorem dX9_at_8 : decode cX9_at 8 = .ok (.invokestatic 93, 3) := by decide +kernel
theorem dX9_at_11 : decode cX9_at 11 = .ok (.ifCond .eq 12, 3) := by decide +kernel
theorem dX9_at_14 : decode cX9_at 14 = .ok (.aload_n 0, 1) := by decide +kernel
theorem dX9_at_15 : decode cX9_at 15 = .ok (.getfield 15, 3) := by decide +kernel
theorem dX9_at_18 : decode cX9_at 18 = .ok (.iload_n 1, 1) := by decide +kernel
theorem dX9_at_19 : decode cX9_at 19 = .ok (.iaload, 1) := by decide +kernel
theorem dX9_at_20 : decode cX9_at 20 = .ok (.goto 4, 3) := by decide +kernel
theorem dX9_at_23 : decode cX9_at 23 = .ok (.iconst (-1), 1) := by decide +kernel
theorem dX9_at_24 : decode cX9_at 24 = .ok (.ireturn, 1) := by decide +kernel
theorem dX9_all_0 : decode cX9_all 0 = .ok (.aload_n 0, 1) := by decide +kernel
theorem dX9_all_1 : decode cX9_all 1 = .ok (.getfield 90, 3) := by decide +kernel
theorem dX9_all_4 : decode cX9_all 4 = .ok (.bipush 6, 2) := by decide +kernel
theorem dX9_all_6 : decode cX9_all 6 = .ok (.if_icmp .ne 9, 3) := by decide +kernel
theorem dX9_all_9 : decode cX9_all 9 = .ok (.ldc2_w 182, 3) := by decide +kernel
theorem dX9_all_12 : decode cX9_all 12 = .ok (.goto 13, 3) := by decide +kernel
theorem dX9_all_15 : decode cX9_all 15 = .ok (.lconst 1, 1) := by decide +kernel
theorem dX9_all_16 : decode cX9_all 16 = .ok (.iconst 1, 1) := by decide +kernel
theorem dX9_all_17 : decode cX9_all 17 = .ok (.aload_n 0, 1) := by decide +kernel
theorem dX9_all_18 : decode cX9_all 18 = .ok (.getfield 90, 3) := by decide +kernel
theorem dX9_all_21 : decode cX9_all 21 = .ok (.ishl, 1) := by decide +kernel
theorem dX9_all_22 : decode cX9_all 22 = .ok (.lshl, 1) := by decide +kernel
theorem dX9_all_23 : decode cX9_all 23 = .ok (.lconst 1, 1) := by decide +kernel
theorem dX9_all_24 : decode cX9_all 24 = .ok (.lsub, 1) := by decide +kernel
theorem dX9_all_25 : decode cX9_all 25 = .ok (.lreturn, 1) := by decide +kernel
theorem dX9_were_0 : decode cX9_were 0 = .ok (.lconst 0, 1) := by decide +kernel
theorem dX9_were_1 : decode cX9_were 1 = .ok (.lstore 5, 2) := by decide +kernel
theorem dX9_were_3 : decode cX9_were 3 = .ok (.iconst 0, 1) := by decide +kernel
theorem dX9_were_4 : decode cX9_were 4 = .ok (.istore 7, 2) := by decide +kernel
theorem dX9_were_6 : decode cX9_were 6 = .ok (.iload 7, 2) := by decide +kernel
theorem dX9_were_8 : decode cX9_were 8 = .ok (.iconst 1, 1) := by decide +kernel
theorem dX9_were_9 : decode cX9_were 9 = .ok (.aload_n 0, 1) := by decide +kernel
theorem dX9_were_10 : decode cX9_were 10 = .ok (.getfield 90, 3) := by decide +kernel
theorem dX9_were_13 : decode cX9_were 13 = .ok (.ishl, 1) := by decide +kernel
theorem dX9_were_14 : decode cX9_were 14 = .ok (.if_icmp .ge 53, 3) := by decide +kernel
theorem dX9_were_17 : decode cX9_were 17 = .ok (.iload 4, 2) := by decide +kernel
theorem dX9_were_19 : decode cX9_were 19 = .ok (.ifCond .eq 12, 3) := by decide +kernel
theorem dX9_were_22 : decode cX9_were 22 = .ok (.iload 7, 2) := by decide +kernel
theorem dX9_were_24 : decode cX9_were 24 = .ok (.iconst 1, 1) := by decide +kernel
theorem dX9_were_25 : decode cX9_were 25 = .ok (.iload_n 3, 1) := by decide +kernel
theorem dX9_were_26 : decode cX9_were 26 = .ok (.ishl, 1) := by decide +kernel
theorem dX9_were_27 : decode cX9_were 27 = .ok (.ior, 1) := by decide +kernel
theorem dX9_were_28 : decode cX9_were 28 = .ok (.goto 11, 3) := by decide +kernel
theorem dX9_were_31 : decode cX9_were 31 = .ok (.iload 7, 2) := by decide +kernel
theorem dX9_were_33 : decode cX9_were 33 = .ok (.iconst 1, 1) := by decide +kernel
theorem dX9_were_34 : decode cX9_were 34 = .ok (.iload_n 3, 1) := by decide +kernel
theorem dX9_were_35 : decode cX9_were 35 = .ok (.ishl, 1) := by decide +kernel
theorem dX9_were_36 : decode cX9_were 36 = .ok (.iconst (-1), 1) := by decide +kernel
theorem dX9_were_37 : decode cX9_were 37 = .ok (.ixor, 1) := by decide +kernel
theorem dX9_were_38 : decode cX9_were 38 = .ok (.iand, 1) := by decide +kernel
theorem dX9_were_39 : decode cX9_were 39 = .ok (.istore 8, 2) := by decide +kernel
theorem dX9_were_41 : decode cX9_were 41 = .ok (.lload_n 1, 1) := by decide +kernel
theorem dX9_were_42 : decode cX9_were 42 = .ok (.iload 8, 2) := by decide +kernel
theorem dX9_were_44 : decode cX9_were 44 = .ok (.lushr, 1) := by decide +kernel
theorem dX9_were_45 : decode cX9_were 45 = .ok (.lconst 1, 1) := by decide +kernel
theorem dX9_were_46 : decode cX9_were 46 = .ok (.land, 1) := by decide +kernel
theorem dX9_were_47 : decode cX9_were 47 = .ok (.lconst 1, 1) := by decide +kernel
theorem dX9_were_48 : decode cX9_were 48 = .ok (.lcmp, 1) := by decide +kernel
theorem dX9_were_49 : decode cX9_were 49 = .ok (.ifCond .ne 12, 3) := by decide +kernel
theorem dX9_were_52 : decode cX9_were 52 = .ok (.lload 5, 2) := by decide +kernel
theorem dX9_were_54 : decode cX9_were 54 = .ok (.lconst 1, 1) := by decide +kernel
theorem dX9_were_55 : decode cX9_were 55 = .ok (.iload 7, 2) := by decide +kernel
theorem dX9_were_57 : decode cX9_were 57 = .ok (.lshl, 1) := by decide +kernel
theorem dX9_were_58 : decode cX9_were 58 = .ok (.lor, 1) := by decide +kernel
theorem dX9_were_59 : decode cX9_were 59 = .ok (.lstore 5, 2) := by decide +kernel
theorem dX9_were_61 : decode cX9_were 61 = .ok (.iinc 7 1, 3) := by decide +kernel
theorem dX9_were_64 : decode cX9_were 64 = .ok (.goto (-58), 3) := by decide +kernel
theorem dX9_were_67 : decode cX9_were 67 = .ok (.lload 5, 2) := by decide +kernel
theorem dX9_were_69 : decode cX9_were 69 = .ok (.lreturn, 1) := by decide +kernel
theorem dX9_nodeFor_0 : decode cX9_nodeFor 0 = .ok (.lload_n 1, 1) := by decide +kernel
theorem dX9_nodeFor_1 : decode cX9_nodeFor 1 = .ok (.lconst 0, 1) := by decide +kernel
theorem dX9_nodeFor_2 : decode cX9_nodeFor 2 = .ok (.lcmp, 1) := by decide +kernel
theorem dX9_nodeFor_3 : decode cX9_nodeFor 3 = .ok (.ifCond .ne 6, 3) := by decide +kernel
theorem dX9_nodeFor_6 : decode cX9_nodeFor 6 = .ok (.bipush (-6), 2) := by decide +kernel
theorem dX9_nodeFor_8 : decode cX9_nodeFor 8 = .ok (.ireturn, 1) := by decide +kernel
theorem dX9_nodeFor_9 : decode cX9_nodeFor 9 = .ok (.lload_n 1, 1) := by decide +kernel
theorem dX9_nodeFor_10 : decode cX9_nodeFor 10 = .ok (.aload_n 0, 1) := by decide +kernel
theorem dX9_nodeFor_11 : decode cX9_nodeFor 11 = .ok (.invokevirtual 184, 3) := by decide +kernel
theorem dX9_nodeFor_14 : decode cX9_nodeFor 14 = .ok (.lcmp, 1) := by decide +kernel
theorem dX9_nodeFor_15 : decode cX9_nodeFor 15 = .ok (.ifCond .ne 6, 3) := by decide +kernel
theorem dX9_nodeFor_18 : decode cX9_nodeFor 18 = .ok (.bipush (-7), 2) := by decide +kernel
theorem dX9_nodeFor_20 : decode cX9_nodeFor 20 = .ok (.ireturn, 1) := by decide +kernel
theorem dX9_nodeFor_21 : decode cX9_nodeFor 21 = .ok (.iconst 0, 1) := by decide +kernel
theorem dX9_nodeFor_22 : decode cX9_nodeFor 22 = .ok (.istore_n 3, 1) := by decide +kernel
theorem dX9_nodeFor_23 : decode cX9_nodeFor 23 = .ok (.iload_n 3, 1) := by decide +kernel
theorem dX9_nodeFor_24 : decode cX9_nodeFor 24 = .ok (.aload_n 0, 1) := by decide +kernel
theorem dX9_nodeFor_25 : decode cX9_nodeFor 25 = .ok (.getfield 188, 3) := by decide +kernel
theorem dX9_nodeFor_28 : decode cX9_nodeFor 28 = .ok (.if_icmp .ge 22, 3) := by decide +kernel
theorem dX9_nodeFor_31 : decode cX9_nodeFor 31 = .ok (.aload_n 0, 1) := by decide +kernel
theorem dX9_nodeFor_32 : decode cX9_nodeFor 32 = .ok (.getfield 59, 3) := by decide +kernel
theorem dX9_nodeFor_35 : decode cX9_nodeFor 35 = .ok (.iload_n 3, 1) := by decide +kernel
theorem dX9_nodeFor_36 : decode cX9_nodeFor 36 = .ok (.laload, 1) := by decide +kernel
theorem dX9_nodeFor_37 : decode cX9_nodeFor 37 = .ok (.lload_n 1, 1) := by decide +kernel
theorem dX9_nodeFor_38 : decode cX9_nodeFor 38 = .ok (.lcmp, 1) := by decide +kernel
theorem dX9_nodeFor_39 : decode cX9_nodeFor 39 = .ok (.ifCond .ne 5, 3) := by decide +kernel
theorem dX9_nodeFor_42 : decode cX9_nodeFor 42 = .ok (.iload_n 3, 1) := by decide +kernel
theorem dX9_nodeFor_43 : decode cX9_nodeFor 43 = .ok (.ireturn, 1) := by decide +kernel
theorem dX9_nodeFor_44 : decode cX9_nodeFor 44 = .ok (.iinc 3 1, 3) := by decide +kernel
theorem dX9_nodeFor_47 : decode cX9_nodeFor 47 = .ok (.goto (-24), 3) := by decide +kernel
theorem dX9_nodeFor_50 : decode cX9_nodeFor 50 = .ok (.aload_n 0, 1) := by decide +kernel
theorem dX9_nodeFor_51 : decode cX9_nodeFor 51 = .ok (.dup, 1) := by decide +kernel
theorem dX9_nodeFor_52 : decode cX9_nodeFor 52 = .ok (.getfield 188, 3) := by decide +kernel
theorem dX9_nodeFor_55 : decode cX9_nodeFor 55 = .ok (.dup_x1, 1) := by decide +kernel
theorem dX9_nodeFor_56 : decode cX9_nodeFor 56 = .ok (.iconst 1, 1) := by decide +kernel
theorem dX9_nodeFor_57 : decode cX9_nodeFor 57 = .ok (.iadd, 1) := by decide +kernel
theorem dX9_nodeFor_58 : decode cX9_nodeFor 58 = .ok (.putfield 188, 3) := by decide +kernel
theorem dX9_nodeFor_61 : decode cX9_nodeFor 61 = .ok (.istore_n 3, 1) := by decide +kernel
theorem dX9_nodeFor_62 : decode cX9_nodeFor 62 = .ok (.aload_n 0, 1) := by decide +kernel
theorem dX9_nodeFor_63 : decode cX9_nodeFor 63 = .ok (.getfield 59, 3) := by decide +kernel
theorem dX9_nodeFor_66 : decode cX9_nodeFor 66 = .ok (.iload_n 3, 1) := by decide +kernel
theorem dX9_nodeFor_67 : decode cX9_nodeFor 67 = .ok (.lload_n 1, 1) := by decide +kernel
theorem dX9_nodeFor_68 : decode cX9_nodeFor 68 = .ok (.lastore, 1) := by decide +kernel
theorem dX9_nodeFor_69 : decode cX9_nodeFor 69 = .ok (.iconst 0, 1) := by decide +kernel
theorem dX9_nodeFor_70 : decode cX9_nodeFor 70 = .ok (.istore 4, 2) := by decide +kernel
theorem dX9_nodeFor_72 : decode cX9_nodeFor 72 = .ok (.aload_n 0, 1) := by decide +kernel
theorem dX9_nodeFor_73 : decode cX9_nodeFor 73 = .ok (.lload_n 1, 1) := by decide +kernel
theorem dX9_nodeFor_74 : decode cX9_nodeFor 74 = .ok (.aload_n 0, 1) := by decide +kernel
theorem dX9_nodeFor_75 : decode cX9_nodeFor 75 = .ok (.getfield 15, 3) := by decide +kernel
theorem dX9_nodeFor_78 : decode cX9_nodeFor 78 = .ok (.iload 4, 2) := by decide +kernel
theorem dX9_nodeFor_80 : decode cX9_nodeFor 80 = .ok (.iaload, 1) := by decide +kernel
theorem dX9_nodeFor_81 : decode cX9_nodeFor 81 = .ok (.iconst 1, 1) := by decide +kernel
theorem dX9_nodeFor_82 : decode cX9_nodeFor 82 = .ok (.invokevirtual 191, 3) := by decide +kernel
theorem dX9_nodeFor_85 : decode cX9_nodeFor 85 = .ok (.aload_n 0, 1) := by decide +kernel
theorem dX9_nodeFor_86 : decode cX9_nodeFor 86 = .ok (.lload_n 1, 1) := by decide +kernel
theorem dX9_nodeFor_87 : decode cX9_nodeFor 87 = .ok (.aload_n 0, 1) := by decide +kernel
theorem dX9_nodeFor_88 : decode cX9_nodeFor 88 = .ok (.getfield 15, 3) := by decide +kernel
theorem dX9_nodeFor_91 : decode cX9_nodeFor 91 = .ok (.iload 4, 2) := by decide +kernel
theorem dX9_nodeFor_93 : decode cX9_nodeFor 93 = .ok (.iaload, 1) := by decide +kernel
theorem dX9_nodeFor_94 : decode cX9_nodeFor 94 = .ok (.iconst 0, 1) := by decide +kernel
theorem dX9_nodeFor_95 : decode cX9_nodeFor 95 = .ok (.invokevirtual 191, 3) := by decide +kernel
theorem dX9_nodeFor_98 : decode cX9_nodeFor 98 = .ok (.lcmp, 1) := by decide +kernel
theorem dX9_nodeFor_99 : decode cX9_nodeFor 99 = .ok (.ifCond .ne 9, 3) := by decide +kernel
theorem dX9_nodeFor_102 : decode cX9_nodeFor 102 = .ok (.iinc 4 1, 3) := by decide +kernel
theorem dX9_nodeFor_105 : decode cX9_nodeFor 105 = .ok (.goto (-33), 3) := by decide +kernel
theorem dX9_nodeFor_108 : decode cX9_nodeFor 108 = .ok (.aload_n 0, 1) := by decide +kernel
theorem dX9_nodeFor_109 : decode cX9_nodeFor 109 = .ok (.getfield 63, 3) := by decide +kernel
theorem dX9_nodeFor_112 : decode cX9_nodeFor 112 = .ok (.iload_n 3, 1) := by decide +kernel
theorem dX9_nodeFor_113 : decode cX9_nodeFor 113 = .ok (.aload_n 0, 1) := by decide +kernel
theorem dX9_nodeFor_114 : decode cX9_nodeFor 114 = .ok (.getfield 15, 3) := by decide +kernel
theorem dX9_nodeFor_117 : decode cX9_nodeFor 117 = .ok (.iload 4, 2) := by decide +kernel
theorem dX9_nodeFor_119 : decode cX9_nodeFor 119 = .ok (.iaload, 1) := by decide +kernel
theorem dX9_nodeFor_120 : decode cX9_nodeFor 120 = .ok (.iastore, 1) := by decide +kernel
theorem dX9_nodeFor_121 : decode cX9_nodeFor 121 = .ok (.aload_n 0, 1) := by decide +kernel
theorem dX9_nodeFor_122 : decode cX9_nodeFor 122 = .ok (.getfield 66, 3) := by decide +kernel
theorem dX9_nodeFor_125 : decode cX9_nodeFor 125 = .ok (.iload_n 3, 1) := by decide +kernel
theorem dX9_nodeFor_126 : decode cX9_nodeFor 126 = .ok (.aload_n 0, 1) := by decide +kernel
theorem dX9_nodeFor_127 : decode cX9_nodeFor 127 = .ok (.aload_n 0, 1) := by decide +kernel
theorem dX9_nodeFor_128 : decode cX9_nodeFor 128 = .ok (.lload_n 1, 1) := by decide +kernel
theorem dX9_nodeFor_129 : decode cX9_nodeFor 129 = .ok (.aload_n 0, 1) := by decide +kernel
theorem dX9_nodeFor_130 : decode cX9_nodeFor 130 = .ok (.getfield 63, 3) := by decide +kernel
theorem dX9_nodeFor_133 : decode cX9_nodeFor 133 = .ok (.iload_n 3, 1) := by decide +kernel
theorem dX9_nodeFor_134 : decode cX9_nodeFor 134 = .ok (.iaload, 1) := by decide +kernel
theorem dX9_nodeFor_135 : decode cX9_nodeFor 135 = .ok (.iconst 0, 1) := by decide +kernel
theorem dX9_nodeFor_136 : decode cX9_nodeFor 136 = .ok (.invokevirtual 191, 3) := by decide +kernel
theorem dX9_nodeFor_139 : decode cX9_nodeFor 139 = .ok (.invokevirtual 195, 3) := by decide +kernel
theorem dX9_nodeFor_142 : decode cX9_nodeFor 142 = .ok (.iastore, 1) := by decide +kernel
theorem dX9_nodeFor_143 : decode cX9_nodeFor 143 = .ok (.aload_n 0, 1) := by decide +kernel
theorem dX9_nodeFor_144 : decode cX9_nodeFor 144 = .ok (.getfield 69, 3) := by decide +kernel
theorem dX9_nodeFor_147 : decode cX9_nodeFor 147 = .ok (.iload_n 3, 1) := by decide +kernel
theorem dX9_nodeFor_148 : decode cX9_nodeFor 148 = .ok (.aload_n 0, 1) := by decide +kernel
theorem dX9_nodeFor_149 : decode cX9_nodeFor 149 = .ok (.aload_n 0, 1) := by decide +kernel
theorem dX9_nodeFor_150 : decode cX9_nodeFor 150 = .ok (.lload_n 1, 1) := by decide +kernel
theorem dX9_nodeFor_151 : decode cX9_nodeFor 151 = .ok (.aload_n 0, 1) := by decide +kernel
theorem dX9_nodeFor_152 : decode cX9_nodeFor 152 = .ok (.getfield 63, 3) := by decide +kernel
theorem dX9_nodeFor_155 : decode cX9_nodeFor 155 = .ok (.iload_n 3, 1) := by decide +kernel
theorem dX9_nodeFor_156 : decode cX9_nodeFor 156 = .ok (.iaload, 1) := by decide +kernel
theorem dX9_nodeFor_157 : decode cX9_nodeFor 157 = .ok (.iconst 1, 1) := by decide +kernel
theorem dX9_nodeFor_158 : decode cX9_nodeFor 158 = .ok (.invokevirtual 191, 3) := by decide +kernel
theorem dX9_nodeFor_161 : decode cX9_nodeFor 161 = .ok (.invokevirtual 195, 3) := by decide +kernel
theorem dX9_nodeFor_164 : decode cX9_nodeFor 164 = .ok (.iastore, 1) := by decide +kernel
theorem dX9_nodeFor_165 : decode cX9_nodeFor 165 = .ok (.iload_n 3, 1) := by decide +kernel
theorem dX9_nodeFor_166 : decode cX9_nodeFor 166 = .ok (.ireturn, 1) := by decide +kernel
theorem dX9_draws_0 : decode cX9_draws 0 = .ok (.lconst 0, 1) := by decide +kernel
theorem dX9_draws_1 : decode cX9_draws 1 = .ok (.lstore_n 1, 1) := by decide +kernel
theorem dX9_draws_2 : decode cX9_draws 2 = .ok (.iconst 0, 1) := by decide +kernel
theorem dX9_draws_3 : decode cX9_draws 3 = .ok (.istore_n 3, 1) := by decide +kernel
theorem dX9_draws_4 : decode cX9_draws 4 = .ok (.iload_n 3, 1) := by decide +kernel
theorem dX9_draws_5 : decode cX9_draws 5 = .ok (.iconst 1, 1) := by decide +kernel
theorem dX9_draws_6 : decode cX9_draws 6 = .ok (.aload_n 0, 1) := by decide +kernel
theorem dX9_draws_7 : decode cX9_draws 7 = .ok (.getfield 90, 3) := by decide +kernel
theorem dX9_draws_10 : decode cX9_draws 10 = .ok (.ishl, 1) := by decide +kernel
theorem dX9_draws_11 : decode cX9_draws 11 = .ok (.if_icmp .ge 23, 3) := by decide +kernel
theorem dX9_draws_14 : decode cX9_draws 14 = .ok (.aload_n 0, 1) := by decide +kernel
theorem dX9_draws_15 : decode cX9_draws 15 = .ok (.iload_n 3, 1) := by decide +kernel
theorem dX9_draws_16 : decode cX9_draws 16 = .ok (.invokevirtual 199, 3) := by decide +kernel
theorem dX9_draws_19 : decode cX9_draws 19 = .ok (.ifCond .eq 9, 3) := by decide +kernel
theorem dX9_draws_22 : decode cX9_draws 22 = .ok (.lload_n 1, 1) := by decide +kernel
theorem dX9_draws_23 : decode cX9_draws 23 = .ok (.lconst 1, 1) := by decide +kernel
theorem dX9_draws_24 : decode cX9_draws 24 = .ok (.iload_n 3, 1) := by decide +kernel
theorem dX9_draws_25 : decode cX9_draws 25 = .ok (.lshl, 1) := by decide +kernel
theorem dX9_draws_26 : decode cX9_draws 26 = .ok (.lor, 1) := by decide +kernel
theorem dX9_draws_27 : decode cX9_draws 27 = .ok (.lstore_n 1, 1) := by decide +kernel
theorem dX9_draws_28 : decode cX9_draws 28 = .ok (.iinc 3 1, 3) := by decide +kernel
theorem dX9_draws_31 : decode cX9_draws 31 = .ok (.goto (-27), 3) := by decide +kernel
theorem dX9_draws_34 : decode cX9_draws 34 = .ok (.aload_n 0, 1) := by decide +kernel
theorem dX9_draws_35 : decode cX9_draws 35 = .ok (.iconst 0, 1) := by decide +kernel
theorem dX9_draws_36 : decode cX9_draws 36 = .ok (.putfield 188, 3) := by decide +kernel
theorem dX9_draws_39 : decode cX9_draws 39 = .ok (.aload_n 0, 1) := by decide +kernel
theorem dX9_draws_40 : decode cX9_draws 40 = .ok (.lload_n 1, 1) := by decide +kernel
theorem dX9_draws_41 : decode cX9_draws 41 = .ok (.invokevirtual 195, 3) := by decide +kernel
theorem dX9_draws_44 : decode cX9_draws 44 = .ok (.ireturn, 1) := by decide +kernel
theorem dX9_sift_0 : decode cX9_sift 0 = .ok (.aload_n 0, 1) := by decide +kernel
theorem dX9_sift_1 : decode cX9_sift 1 = .ok (.iload_n 1, 1) := by decide +kernel
theorem dX9_sift_2 : decode cX9_sift 2 = .ok (.invokevirtual 111, 3) := by decide +kernel
theorem dX9_sift_5 : decode cX9_sift 5 = .ok (.ifCond .ne 5, 3) := by decide +kernel
theorem dX9_sift_8 : decode cX9_sift 8 = .ok (.iconst (-1), 1) := by decide +kernel
theorem dX9_sift_9 : decode cX9_sift 9 = .ok (.ireturn, 1) := by decide +kernel
theorem dX9_sift_10 : decode cX9_sift 10 = .ok (.aload_n 0, 1) := by decide +kernel
theorem dX9_sift_11 : decode cX9_sift 11 = .ok (.getfield 97, 3) := by decide +kernel
theorem dX9_sift_14 : decode cX9_sift 14 = .ok (.ifCond .ne 6, 3) := by decide +kernel
theorem dX9_sift_17 : decode cX9_sift 17 = .ok (.bipush (-3), 2) := by decide +kernel
theorem dX9_sift_19 : decode cX9_sift 19 = .ok (.ireturn, 1) := by decide +kernel
theorem dX9_sift_20 : decode cX9_sift 20 = .ok (.iconst 0, 1) := by decide +kernel
theorem dX9_sift_21 : decode cX9_sift 21 = .ok (.istore_n 2, 1) := by decide +kernel
theorem dX9_sift_22 : decode cX9_sift 22 = .ok (.bipush 64, 2) := by decide +kernel
theorem dX9_sift_24 : decode cX9_sift 24 = .ok (.istore_n 3, 1) := by decide +kernel
theorem dX9_sift_25 : decode cX9_sift 25 = .ok (.iconst 0, 1) := by decide +kernel
theorem dX9_sift_26 : decode cX9_sift 26 = .ok (.istore 4, 2) := by decide +kernel
theorem dX9_sift_28 : decode cX9_sift 28 = .ok (.iload 4, 2) := by decide +kernel
theorem dX9_sift_30 : decode cX9_sift 30 = .ok (.aload_n 0, 1) := by decide +kernel
theorem dX9_sift_31 : decode cX9_sift 31 = .ok (.getfield 90, 3) := by decide +kernel
theorem dX9_sift_34 : decode cX9_sift 34 = .ok (.if_icmp .ge 44, 3) := by decide +kernel
theorem dX9_sift_37 : decode cX9_sift 37 = .ok (.aload_n 0, 1) := by decide +kernel
theorem dX9_sift_38 : decode cX9_sift 38 = .ok (.aload_n 0, 1) := by decide +kernel
theorem dX9_sift_39 : decode cX9_sift 39 = .ok (.iload_n 1, 1) := by decide +kernel
theorem dX9_sift_40 : decode cX9_sift 40 = .ok (.invokevirtual 124, 3) := by decide +kernel
theorem dX9_sift_43 : decode cX9_sift 43 = .ok (.iload 4, 2) := by decide +kernel
theorem dX9_sift_45 : decode cX9_sift 45 = .ok (.invokevirtual 178, 3) := by decide +kernel
theorem dX9_sift_48 : decode cX9_sift 48 = .ok (.aload_n 0, 1) := by decide +kernel
theorem dX9_sift_49 : decode cX9_sift 49 = .ok (.invokevirtual 202, 3) := by decide +kernel
theorem dX9_sift_52 : decode cX9_sift 52 = .ok (.pop, 1) := by decide +kernel
theorem dX9_sift_53 : decode cX9_sift 53 = .ok (.aload_n 0, 1) := by decide +kernel
theorem dX9_sift_54 : decode cX9_sift 54 = .ok (.getfield 188, 3) := by decide +kernel
theorem dX9_sift_57 : decode cX9_sift 57 = .ok (.iload_n 3, 1) := by decide +kernel
theorem dX9_sift_58 : decode cX9_sift 58 = .ok (.if_icmp .lt 6, 3) := by decide +kernel
theorem dX9_sift_61 : decode cX9_sift 61 = .ok (.goto 11, 3) := by decide +kernel
theorem dX9_sift_64 : decode cX9_sift 64 = .ok (.aload_n 0, 1) := by decide +kernel
theorem dX9_sift_65 : decode cX9_sift 65 = .ok (.getfield 188, 3) := by decide +kernel
theorem dX9_sift_68 : decode cX9_sift 68 = .ok (.istore_n 3, 1) := by decide +kernel
theorem dX9_sift_69 : decode cX9_sift 69 = .ok (.iload 4, 2) := by decide +kernel
theorem dX9_sift_71 : decode cX9_sift 71 = .ok (.istore_n 2, 1) := by decide +kernel
theorem dX9_sift_72 : decode cX9_sift 72 = .ok (.iinc 4 1, 3) := by decide +kernel
theorem dX9_sift_75 : decode cX9_sift 75 = .ok (.goto (-47), 3) := by decide +kernel
theorem dX9_sift_78 : decode cX9_sift 78 = .ok (.aload_n 0, 1) := by decide +kernel
theorem dX9_sift_79 : decode cX9_sift 79 = .ok (.aload_n 0, 1) := by decide +kernel
theorem dX9_sift_80 : decode cX9_sift 80 = .ok (.iload_n 1, 1) := by decide +kernel
theorem dX9_sift_81 : decode cX9_sift 81 = .ok (.invokevirtual 124, 3) := by decide +kernel
theorem dX9_sift_84 : decode cX9_sift 84 = .ok (.iload_n 2, 1) := by decide +kernel
theorem dX9_sift_85 : decode cX9_sift 85 = .ok (.invokevirtual 178, 3) := by decide +kernel
theorem dX9_sift_88 : decode cX9_sift 88 = .ok (.iload_n 2, 1) := by decide +kernel
theorem dX9_sift_89 : decode cX9_sift 89 = .ok (.ireturn, 1) := by decide +kernel
theorem dX9_node_0 : decode cX9_node 0 = .ok (.aload_n 0, 1) := by decide +kernel
theorem dX9_node_1 : decode cX9_node 1 = .ok (.getfield 97, 3) := by decide +kernel
theorem dX9_node_4 : decode cX9_node 4 = .ok (.ifCond .ne 6, 3) := by decide +kernel
theorem dX9_node_7 : decode cX9_node 7 = .ok (.bipush (-3), 2) := by decide +kernel
theorem dX9_node_9 : decode cX9_node 9 = .ok (.ireturn, 1) := by decide +kernel
theorem dX9_node_10 : decode cX9_node 10 = .ok (.aload_n 0, 1) := by decide +kernel
theorem dX9_node_11 : decode cX9_node 11 = .ok (.invokevirtual 202, 3) := by decide +kernel
theorem dX9_node_14 : decode cX9_node 14 = .ok (.pop, 1) := by decide +kernel
theorem dX9_node_15 : decode cX9_node 15 = .ok (.iload_n 1, 1) := by decide +kernel
theorem dX9_node_16 : decode cX9_node 16 = .ok (.iconst 0, 1) := by decide +kernel
theorem dX9_node_17 : decode cX9_node 17 = .ok (.aload_n 0, 1) := by decide +kernel
theorem dX9_node_18 : decode cX9_node 18 = .ok (.getfield 188, 3) := by decide +kernel
theorem dX9_node_21 : decode cX9_node 21 = .ok (.iconst 1, 1) := by decide +kernel
theorem dX9_node_22 : decode cX9_node 22 = .ok (.isub, 1) := by decide +kernel
theorem dX9_node_23 : decode cX9_node 23 = .ok (.invokestatic 93, 3) := by decide +kernel
theorem dX9_node_26 : decode cX9_node 26 = .ok (.ifCond .ne 5, 3) := by decide +kernel
theorem dX9_node_29 : decode cX9_node 29 = .ok (.iconst (-1), 1) := by decide +kernel
theorem dX9_node_30 : decode cX9_node 30 = .ok (.ireturn, 1) := by decide +kernel
theorem dX9_node_31 : decode cX9_node 31 = .ok (.iload_n 2, 1) := by decide +kernel
theorem dX9_node_32 : decode cX9_node 32 = .ok (.tableswitch 49 0 2 #[28, 35, 42], 28) := by decide +kernel
theorem dX9_node_60 : decode cX9_node 60 = .ok (.aload_n 0, 1) := by decide +kernel
theorem dX9_node_61 : decode cX9_node 61 = .ok (.getfield 63, 3) := by decide +kernel
theorem dX9_node_64 : decode cX9_node 64 = .ok (.iload_n 1, 1) := by decide +kernel
theorem dX9_node_65 : decode cX9_node 65 = .ok (.iaload, 1) := by decide +kernel
theorem dX9_node_66 : decode cX9_node 66 = .ok (.ireturn, 1) := by decide +kernel
theorem dX9_node_67 : decode cX9_node 67 = .ok (.aload_n 0, 1) := by decide +kernel
theorem dX9_node_68 : decode cX9_node 68 = .ok (.getfield 66, 3) := by decide +kernel
theorem dX9_node_71 : decode cX9_node 71 = .ok (.iload_n 1, 1) := by decide +kernel
theorem dX9_node_72 : decode cX9_node 72 = .ok (.iaload, 1) := by decide +kernel
theorem dX9_node_73 : decode cX9_node 73 = .ok (.ireturn, 1) := by decide +kernel
theorem dX9_node_74 : decode cX9_node 74 = .ok (.aload_n 0, 1) := by decide +kernel
theorem dX9_node_75 : decode cX9_node 75 = .ok (.getfield 69, 3) := by decide +kernel
theorem dX9_node_78 : decode cX9_node 78 = .ok (.iload_n 1, 1) := by decide +kernel
theorem dX9_node_79 : decode cX9_node 79 = .ok (.iaload, 1) := by decide +kernel
theorem dX9_node_80 : decode cX9_node 80 = .ok (.ireturn, 1) := by decide +kernel
theorem dX9_node_81 : decode cX9_node 81 = .ok (.iconst (-1), 1) := by decide +kernel
theorem dX9_node_82 : decode cX9_node 82 = .ok (.ireturn, 1) := by decide +kernel
theorem dX9_many_0 : decode cX9_many 0 = .ok (.iconst 0, 1) := by decide +kernel
theorem dX9_many_1 : decode cX9_many 1 = .ok (.istore_n 1, 1) := by decide +kernel
theorem dX9_many_2 : decode cX9_many 2 = .ok (.iload_n 0, 1) := by decide +kernel
theorem dX9_many_3 : decode cX9_many 3 = .ok (.istore_n 2, 1) := by decide +kernel
theorem dX9_many_4 : decode cX9_many 4 = .ok (.iload_n 2, 1) := by decide +kernel
theorem dX9_many_5 : decode cX9_many 5 = .ok (.ifCond .le 16, 3) := by decide +kernel
theorem dX9_many_8 : decode cX9_many 8 = .ok (.iload_n 1, 1) := by decide +kernel
theorem dX9_many_9 : decode cX9_many 9 = .ok (.iload_n 2, 1) := by decide +kernel
theorem dX9_many_10 : decode cX9_many 10 = .ok (.iconst 2, 1) := by decide +kernel
theorem dX9_many_11 : decode cX9_many 11 = .ok (.irem, 1) := by decide +kernel
theorem dX9_many_12 : decode cX9_many 12 = .ok (.iadd, 1) := by decide +kernel
theorem dX9_many_13 : decode cX9_many 13 = .ok (.istore_n 1, 1) := by decide +kernel
theorem dX9_many_14 : decode cX9_many 14 = .ok (.iload_n 2, 1) := by decide +kernel
theorem dX9_many_15 : decode cX9_many 15 = .ok (.iconst 2, 1) := by decide +kernel
theorem dX9_many_16 : decode cX9_many 16 = .ok (.idiv, 1) := by decide +kernel
theorem dX9_many_17 : decode cX9_many 17 = .ok (.istore_n 2, 1) := by decide +kernel
theorem dX9_many_18 : decode cX9_many 18 = .ok (.goto (-14), 3) := by decide +kernel
theorem dX9_many_21 : decode cX9_many 21 = .ok (.iload_n 1, 1) := by decide +kernel
theorem dX9_many_22 : decode cX9_many 22 = .ok (.ireturn, 1) := by decide +kernel
theorem dX9_isOne_0 : decode cX9_isOne 0 = .ok (.iload_n 2, 1) := by decide +kernel
theorem dX9_isOne_1 : decode cX9_isOne 1 = .ok (.ifCond .eq 11, 3) := by decide +kernel
theorem dX9_isOne_4 : decode cX9_isOne 4 = .ok (.aload_n 0, 1) := by decide +kernel
theorem dX9_isOne_5 : decode cX9_isOne 5 = .ok (.iload_n 1, 1) := by decide +kernel
theorem dX9_isOne_6 : decode cX9_isOne 6 = .ok (.invokevirtual 199, 3) := by decide +kernel
theorem dX9_isOne_9 : decode cX9_isOne 9 = .ok (.goto 27, 3) := by decide +kernel
theorem dX9_isOne_12 : decode cX9_isOne 12 = .ok (.aload_n 0, 1) := by decide +kernel
theorem dX9_isOne_13 : decode cX9_isOne 13 = .ok (.iconst 1, 1) := by decide +kernel
theorem dX9_isOne_14 : decode cX9_isOne 14 = .ok (.aload_n 0, 1) := by decide +kernel
theorem dX9_isOne_15 : decode cX9_isOne 15 = .ok (.getfield 90, 3) := by decide +kernel
theorem dX9_isOne_18 : decode cX9_isOne 18 = .ok (.ishl, 1) := by decide +kernel
theorem dX9_isOne_19 : decode cX9_isOne 19 = .ok (.iconst 1, 1) := by decide +kernel
theorem dX9_isOne_20 : decode cX9_isOne 20 = .ok (.isub, 1) := by decide +kernel
theorem dX9_isOne_21 : decode cX9_isOne 21 = .ok (.iload_n 1, 1) := by decide +kernel
theorem dX9_isOne_22 : decode cX9_isOne 22 = .ok (.iconst (-1), 1) := by decide +kernel
theorem dX9_isOne_23 : decode cX9_isOne 23 = .ok (.ixor, 1) := by decide +kernel
theorem dX9_isOne_24 : decode cX9_isOne 24 = .ok (.iand, 1) := by decide +kernel
theorem dX9_isOne_25 : decode cX9_isOne 25 = .ok (.invokevirtual 199, 3) := by decide +kernel
theorem dX9_isOne_28 : decode cX9_isOne 28 = .ok (.ifCond .ne 7, 3) := by decide +kernel
theorem dX9_isOne_31 : decode cX9_isOne 31 = .ok (.iconst 1, 1) := by decide +kernel
theorem dX9_isOne_32 : decode cX9_isOne 32 = .ok (.goto 4, 3) := by decide +kernel
theorem dX9_isOne_35 : decode cX9_isOne 35 = .ok (.iconst 0, 1) := by decide +kernel
theorem dX9_isOne_36 : decode cX9_isOne 36 = .ok (.ireturn, 1) := by decide +kernel
theorem dX9_isLeast_0 : decode cX9_isLeast 0 = .ok (.aload_n 0, 1) := by decide +kernel
theorem dX9_isLeast_1 : decode cX9_isLeast 1 = .ok (.iload_n 1, 1) := by decide +kernel
theorem dX9_isLeast_2 : decode cX9_isLeast 2 = .ok (.iload_n 2, 1) := by decide +kernel
theorem dX9_isLeast_3 : decode cX9_isLeast 3 = .ok (.invokevirtual 205, 3) := by decide +kernel
theorem dX9_isLeast_6 : decode cX9_isLeast 6 = .ok (.ifCond .ne 5, 3) := by decide +kernel
theorem dX9_isLeast_9 : decode cX9_isLeast 9 = .ok (.iconst 0, 1) := by decide +kernel
theorem dX9_isLeast_10 : decode cX9_isLeast 10 = .ok (.ireturn, 1) := by decide +kernel
theorem dX9_isLeast_11 : decode cX9_isLeast 11 = .ok (.iconst 0, 1) := by decide +kernel
theorem dX9_isLeast_12 : decode cX9_isLeast 12 = .ok (.istore_n 3, 1) := by decide +kernel
theorem dX9_isLeast_13 : decode cX9_isLeast 13 = .ok (.iload_n 3, 1) := by decide +kernel
theorem dX9_isLeast_14 : decode cX9_isLeast 14 = .ok (.aload_n 0, 1) := by decide +kernel
theorem dX9_isLeast_15 : decode cX9_isLeast 15 = .ok (.getfield 90, 3) := by decide +kernel
theorem dX9_isLeast_18 : decode cX9_isLeast 18 = .ok (.if_icmp .ge 35, 3) := by decide +kernel
theorem dX9_isLeast_21 : decode cX9_isLeast 21 = .ok (.iload_n 1, 1) := by decide +kernel
theorem dX9_isLeast_22 : decode cX9_isLeast 22 = .ok (.iload_n 3, 1) := by decide +kernel
theorem dX9_isLeast_23 : decode cX9_isLeast 23 = .ok (.ishr, 1) := by decide +kernel
theorem dX9_isLeast_24 : decode cX9_isLeast 24 = .ok (.iconst 1, 1) := by decide +kernel
theorem dX9_isLeast_25 : decode cX9_isLeast 25 = .ok (.iand, 1) := by decide +kernel
theorem dX9_isLeast_26 : decode cX9_isLeast 26 = .ok (.iconst 1, 1) := by decide +kernel
theorem dX9_isLeast_27 : decode cX9_isLeast 27 = .ok (.if_icmp .ne 20, 3) := by decide +kernel
theorem dX9_isLeast_30 : decode cX9_isLeast 30 = .ok (.aload_n 0, 1) := by decide +kernel
theorem dX9_isLeast_31 : decode cX9_isLeast 31 = .ok (.iload_n 1, 1) := by decide +kernel
theorem dX9_isLeast_32 : decode cX9_isLeast 32 = .ok (.iconst 1, 1) := by decide +kernel
theorem dX9_isLeast_33 : decode cX9_isLeast 33 = .ok (.iload_n 3, 1) := by decide +kernel
theorem dX9_isLeast_34 : decode cX9_isLeast 34 = .ok (.ishl, 1) := by decide +kernel
theorem dX9_isLeast_35 : decode cX9_isLeast 35 = .ok (.iconst (-1), 1) := by decide +kernel
theorem dX9_isLeast_36 : decode cX9_isLeast 36 = .ok (.ixor, 1) := by decide +kernel
theorem dX9_isLeast_37 : decode cX9_isLeast 37 = .ok (.iand, 1) := by decide +kernel
theorem dX9_isLeast_38 : decode cX9_isLeast 38 = .ok (.iload_n 2, 1) := by decide +kernel
theorem dX9_isLeast_39 : decode cX9_isLeast 39 = .ok (.invokevirtual 205, 3) := by decide +kernel
theorem dX9_isLeast_42 : decode cX9_isLeast 42 = .ok (.ifCond .eq 5, 3) := by decide +kernel
theorem dX9_isLeast_45 : decode cX9_isLeast 45 = .ok (.iconst 0, 1) := by decide +kernel
theorem dX9_isLeast_46 : decode cX9_isLeast 46 = .ok (.ireturn, 1) := by decide +kernel
theorem dX9_isLeast_47 : decode cX9_isLeast 47 = .ok (.iinc 3 1, 3) := by decide +kernel
theorem dX9_isLeast_50 : decode cX9_isLeast 50 = .ok (.goto (-37), 3) := by decide +kernel
theorem dX9_isLeast_53 : decode cX9_isLeast 53 = .ok (.iconst 1, 1) := by decide +kernel
theorem dX9_isLeast_54 : decode cX9_isLeast 54 = .ok (.ireturn, 1) := by decide +kernel
theorem dX9_sets_0 : decode cX9_sets 0 = .ok (.aload_n 0, 1) := by decide +kernel
theorem dX9_sets_1 : decode cX9_sets 1 = .ok (.iconst 0, 1) := by decide +kernel
theorem dX9_sets_2 : decode cX9_sets 2 = .ok (.putfield 209, 3) := by decide +kernel
theorem dX9_sets_5 : decode cX9_sets 5 = .ok (.iconst 0, 1) := by decide +kernel
theorem dX9_sets_6 : decode cX9_sets 6 = .ok (.istore_n 2, 1) := by decide +kernel
theorem dX9_sets_7 : decode cX9_sets 7 = .ok (.iload_n 2, 1) := by decide +kernel
theorem dX9_sets_8 : decode cX9_sets 8 = .ok (.aload_n 0, 1) := by decide +kernel
theorem dX9_sets_9 : decode cX9_sets 9 = .ok (.getfield 90, 3) := by decide +kernel
theorem dX9_sets_12 : decode cX9_sets 12 = .ok (.if_icmp .gt 61, 3) := by decide +kernel
theorem dX9_sets_15 : decode cX9_sets 15 = .ok (.iconst 0, 1) := by decide +kernel
theorem dX9_sets_16 : decode cX9_sets 16 = .ok (.istore_n 3, 1) := by decide +kernel
theorem dX9_sets_17 : decode cX9_sets 17 = .ok (.iload_n 3, 1) := by decide +kernel
theorem dX9_sets_18 : decode cX9_sets 18 = .ok (.iconst 1, 1) := by decide +kernel
theorem dX9_sets_19 : decode cX9_sets 19 = .ok (.aload_n 0, 1) := by decide +kernel
theorem dX9_sets_20 : decode cX9_sets 20 = .ok (.getfield 90, 3) := by decide +kernel
theorem dX9_sets_23 : decode cX9_sets 23 = .ok (.ishl, 1) := by decide +kernel
theorem dX9_sets_24 : decode cX9_sets 24 = .ok (.if_icmp .ge 43, 3) := by decide +kernel
theorem dX9_sets_27 : decode cX9_sets 27 = .ok (.iload_n 3, 1) := by decide +kernel
theorem dX9_sets_28 : decode cX9_sets 28 = .ok (.invokestatic 212, 3) := by decide +kernel
theorem dX9_sets_31 : decode cX9_sets 31 = .ok (.iload_n 2, 1) := by decide +kernel
theorem dX9_sets_32 : decode cX9_sets 32 = .ok (.if_icmp .ne 29, 3) := by decide +kernel
theorem dX9_sets_35 : decode cX9_sets 35 = .ok (.aload_n 0, 1) := by decide +kernel
theorem dX9_sets_36 : decode cX9_sets 36 = .ok (.iload_n 3, 1) := by decide +kernel
theorem dX9_sets_37 : decode cX9_sets 37 = .ok (.iload_n 1, 1) := by decide +kernel
theorem dX9_sets_38 : decode cX9_sets 38 = .ok (.invokevirtual 215, 3) := by decide +kernel
theorem dX9_sets_41 : decode cX9_sets 41 = .ok (.ifCond .eq 20, 3) := by decide +kernel
theorem dX9_sets_44 : decode cX9_sets 44 = .ok (.aload_n 0, 1) := by decide +kernel
theorem dX9_sets_45 : decode cX9_sets 45 = .ok (.getfield 72, 3) := by decide +kernel
theorem dX9_sets_48 : decode cX9_sets 48 = .ok (.aload_n 0, 1) := by decide +kernel
theorem dX9_sets_49 : decode cX9_sets 49 = .ok (.dup, 1) := by decide +kernel
theorem dX9_sets_50 : decode cX9_sets 50 = .ok (.getfield 209, 3) := by decide +kernel
theorem dX9_sets_53 : decode cX9_sets 53 = .ok (.dup_x1, 1) := by decide +kernel
theorem dX9_sets_54 : decode cX9_sets 54 = .ok (.iconst 1, 1) := by decide +kernel
theorem dX9_sets_55 : decode cX9_sets 55 = .ok (.iadd, 1) := by decide +kernel
theorem dX9_sets_56 : decode cX9_sets 56 = .ok (.putfield 209, 3) := by decide +kernel
theorem dX9_sets_59 : decode cX9_sets 59 = .ok (.iload_n 3, 1) := by decide +kernel
theorem dX9_sets_60 : decode cX9_sets 60 = .ok (.iastore, 1) := by decide +kernel
theorem dX9_sets_61 : decode cX9_sets 61 = .ok (.iinc 3 1, 3) := by decide +kernel
theorem dX9_sets_64 : decode cX9_sets 64 = .ok (.goto (-47), 3) := by decide +kernel
theorem dX9_sets_67 : decode cX9_sets 67 = .ok (.iinc 2 1, 3) := by decide +kernel
theorem dX9_sets_70 : decode cX9_sets 70 = .ok (.goto (-63), 3) := by decide +kernel
theorem dX9_sets_73 : decode cX9_sets 73 = .ok (.return_, 1) := by decide +kernel
theorem dX9_setAt_0 : decode cX9_setAt 0 = .ok (.aload_n 0, 1) := by decide +kernel
theorem dX9_setAt_1 : decode cX9_setAt 1 = .ok (.getfield 97, 3) := by decide +kernel
theorem dX9_setAt_4 : decode cX9_setAt 4 = .ok (.ifCond .ne 6, 3) := by decide +kernel
theorem dX9_setAt_7 : decode cX9_setAt 7 = .ok (.bipush (-3), 2) := by decide +kernel
theorem dX9_setAt_9 : decode cX9_setAt 9 = .ok (.ireturn, 1) := by decide +kernel
theorem dX9_setAt_10 : decode cX9_setAt 10 = .ok (.aload_n 0, 1) := by decide +kernel
theorem dX9_setAt_11 : decode cX9_setAt 11 = .ok (.iload_n 2, 1) := by decide +kernel
theorem dX9_setAt_12 : decode cX9_setAt 12 = .ok (.invokevirtual 218, 3) := by decide +kernel
theorem dX9_setAt_15 : decode cX9_setAt 15 = .ok (.iload_n 1, 1) := by decide +kernel
theorem dX9_setAt_16 : decode cX9_setAt 16 = .ok (.iconst 0, 1) := by decide +kernel
theorem dX9_setAt_17 : decode cX9_setAt 17 = .ok (.aload_n 0, 1) := by decide +kernel
theorem dX9_setAt_18 : decode cX9_setAt 18 = .ok (.getfield 209, 3) := by decide +kernel
theorem dX9_setAt_21 : decode cX9_setAt 21 = .ok (.iconst 1, 1) := by decide +kernel
theorem dX9_setAt_22 : decode cX9_setAt 22 = .ok (.isub, 1) := by decide +kernel
theorem dX9_setAt_23 : decode cX9_setAt 23 = .ok (.invokestatic 93, 3) := by decide +kernel
theorem dX9_setAt_26 : decode cX9_setAt 26 = .ok (.ifCond .eq 12, 3) := by decide +kernel
theorem dX9_setAt_29 : decode cX9_setAt 29 = .ok (.aload_n 0, 1) := by decide +kernel
theorem dX9_setAt_30 : decode cX9_setAt 30 = .ok (.getfield 72, 3) := by decide +kernel
theorem dX9_setAt_33 : decode cX9_setAt 33 = .ok (.iload_n 1, 1) := by decide +kernel
theorem dX9_setAt_34 : decode cX9_setAt 34 = .ok (.iaload, 1) := by decide +kernel
theorem dX9_setAt_35 : decode cX9_setAt 35 = .ok (.goto 4, 3) := by decide +kernel
theorem dX9_setAt_38 : decode cX9_setAt 38 = .ok (.iconst (-1), 1) := by decide +kernel
theorem dX9_setAt_39 : decode cX9_setAt 39 = .ok (.ireturn, 1) := by decide +kernel
theorem dX9_cut_0 : decode cX9_cut 0 = .ok (.aload_n 0, 1) := by decide +kernel
theorem dX9_cut_1 : decode cX9_cut 1 = .ok (.iload_n 1, 1) := by decide +kernel
theorem dX9_cut_2 : decode cX9_cut 2 = .ok (.iconst 1, 1) := by decide +kernel
theorem dX9_cut_3 : decode cX9_cut 3 = .ok (.invokevirtual 221, 3) := by decide +kernel
theorem dX9_cut_6 : decode cX9_cut 6 = .ok (.ireturn, 1) := by decide +kernel
theorem dX9_path_0 : decode cX9_path 0 = .ok (.aload_n 0, 1) := by decide +kernel
theorem dX9_path_1 : decode cX9_path 1 = .ok (.iload_n 1, 1) := by decide +kernel
theorem dX9_path_2 : decode cX9_path 2 = .ok (.iconst 0, 1) := by decide +kernel
theorem dX9_path_3 : decode cX9_path 3 = .ok (.invokevirtual 221, 3) := by decide +kernel
theorem dX9_path_6 : decode cX9_path 6 = .ok (.ireturn, 1) := by decide +kernel
theorem dX9_alone_0 : decode cX9_alone 0 = .ok (.lconst 1, 1) := by decide +kernel
theorem dX9_alone_1 : decode cX9_alone 1 = .ok (.lstore_n 2, 1) := by decide +kernel
theorem dX9_alone_2 : decode cX9_alone 2 = .ok (.iconst 0, 1) := by decide +kernel
theorem dX9_alone_3 : decode cX9_alone 3 = .ok (.istore 4, 2) := by decide +kernel
theorem dX9_alone_5 : decode cX9_alone 5 = .ok (.iload 4, 2) := by decide +kernel
theorem dX9_alone_7 : decode cX9_alone 7 = .ok (.aload_n 0, 1) := by decide +kernel
theorem dX9_alone_8 : decode cX9_alone 8 = .ok (.getfield 90, 3) := by decide +kernel
theorem dX9_alone_11 : decode cX9_alone 11 = .ok (.if_icmp .ge 44, 3) := by decide +kernel
theorem dX9_alone_14 : decode cX9_alone 14 = .ok (.lload_n 2, 1) := by decide +kernel
theorem dX9_alone_15 : decode cX9_alone 15 = .ok (.iload_n 1, 1) := by decide +kernel
theorem dX9_alone_16 : decode cX9_alone 16 = .ok (.iload 4, 2) := by decide +kernel
theorem dX9_alone_18 : decode cX9_alone 18 = .ok (.ishr, 1) := by decide +kernel
theorem dX9_alone_19 : decode cX9_alone 19 = .ok (.iconst 1, 1) := by decide +kernel
theorem dX9_alone_20 : decode cX9_alone 20 = .ok (.iand, 1) := by decide +kernel
theorem dX9_alone_21 : decode cX9_alone 21 = .ok (.iconst 1, 1) := by decide +kernel
theorem dX9_alone_22 : decode cX9_alone 22 = .ok (.if_icmp .ne 14, 3) := by decide +kernel
theorem dX9_alone_25 : decode cX9_alone 25 = .ok (.aload_n 0, 1) := by decide +kernel
theorem dX9_alone_26 : decode cX9_alone 26 = .ok (.getfield 9, 3) := by decide +kernel
theorem dX9_alone_29 : decode cX9_alone 29 = .ok (.iload 4, 2) := by decide +kernel
theorem dX9_alone_31 : decode cX9_alone 31 = .ok (.iaload, 1) := by decide +kernel
theorem dX9_alone_32 : decode cX9_alone 32 = .ok (.i2l, 1) := by decide +kernel
theorem dX9_alone_33 : decode cX9_alone 33 = .ok (.goto 14, 3) := by decide +kernel
theorem dX9_alone_36 : decode cX9_alone 36 = .ok (.bipush 100, 2) := by decide +kernel
theorem dX9_alone_38 : decode cX9_alone 38 = .ok (.aload_n 0, 1) := by decide +kernel
theorem dX9_alone_39 : decode cX9_alone 39 = .ok (.getfield 9, 3) := by decide +kernel
theorem dX9_alone_42 : decode cX9_alone 42 = .ok (.iload 4, 2) := by decide +kernel
theorem dX9_alone_44 : decode cX9_alone 44 = .ok (.iaload, 1) := by decide +kernel
theorem dX9_alone_45 : decode cX9_alone 45 = .ok (.isub, 1) := by decide +kernel
theorem dX9_alone_46 : decode cX9_alone 46 = .ok (.i2l, 1) := by decide +kernel
theorem dX9_alone_47 : decode cX9_alone 47 = .ok (.lmul, 1) := by decide +kernel
theorem dX9_alone_48 : decode cX9_alone 48 = .ok (.lstore_n 2, 1) := by decide +kernel
theorem dX9_alone_49 : decode cX9_alone 49 = .ok (.iinc 4 1, 3) := by decide +kernel
theorem dX9_alone_52 : decode cX9_alone 52 = .ok (.goto (-47), 3) := by decide +kernel
theorem dX9_alone_55 : decode cX9_alone 55 = .ok (.lload_n 2, 1) := by decide +kernel
theorem dX9_alone_56 : decode cX9_alone 56 = .ok (.lreturn, 1) := by decide +kernel
theorem dX9_together_0 : decode cX9_together 0 = .ok (.lconst 1, 1) := by decide +kernel
theorem dX9_together_1 : decode cX9_together 1 = .ok (.lstore_n 2, 1) := by decide +kernel
theorem dX9_together_2 : decode cX9_together 2 = .ok (.iconst 0, 1) := by decide +kernel
theorem dX9_together_3 : decode cX9_together 3 = .ok (.istore 4, 2) := by decide +kernel
theorem dX9_together_5 : decode cX9_together 5 = .ok (.iload 4, 2) := by decide +kernel
theorem dX9_together_7 : decode cX9_together 7 = .ok (.aload_n 0, 1) := by decide +kernel
theorem dX9_together_8 : decode cX9_together 8 = .ok (.getfield 121, 3) := by decide +kernel
theorem dX9_together_11 : decode cX9_together 11 = .ok (.if_icmp .ge 44, 3) := by decide +kernel
theorem dX9_together_14 : decode cX9_together 14 = .ok (.lload_n 2, 1) := by decide +kernel
theorem dX9_together_15 : decode cX9_together 15 = .ok (.iload_n 1, 1) := by decide +kernel
theorem dX9_together_16 : decode cX9_together 16 = .ok (.iload 4, 2) := by decide +kernel
theorem dX9_together_18 : decode cX9_together 18 = .ok (.ishr, 1) := by decide +kernel
theorem dX9_together_19 : decode cX9_together 19 = .ok (.iconst 1, 1) := by decide +kernel
theorem dX9_together_20 : decode cX9_together 20 = .ok (.iand, 1) := by decide +kernel
theorem dX9_together_21 : decode cX9_together 21 = .ok (.iconst 1, 1) := by decide +kernel
theorem dX9_together_22 : decode cX9_together 22 = .ok (.if_icmp .ne 14, 3) := by decide +kernel
theorem dX9_together_25 : decode cX9_together 25 = .ok (.aload_n 0, 1) := by decide +kernel
theorem dX9_together_26 : decode cX9_together 26 = .ok (.getfield 34, 3) := by decide +kernel
theorem dX9_together_29 : decode cX9_together 29 = .ok (.iload 4, 2) := by decide +kernel
theorem dX9_together_31 : decode cX9_together 31 = .ok (.iaload, 1) := by decide +kernel
theorem dX9_together_32 : decode cX9_together 32 = .ok (.i2l, 1) := by decide +kernel
theorem dX9_together_33 : decode cX9_together 33 = .ok (.goto 14, 3) := by decide +kernel
theorem dX9_together_36 : decode cX9_together 36 = .ok (.bipush 100, 2) := by decide +kernel
theorem dX9_together_38 : decode cX9_together 38 = .ok (.aload_n 0, 1) := by decide +kernel
theorem dX9_together_39 : decode cX9_together 39 = .ok (.getfield 34, 3) := by decide +kernel
theorem dX9_together_42 : decode cX9_together 42 = .ok (.iload 4, 2) := by decide +kernel
theorem dX9_together_44 : decode cX9_together 44 = .ok (.iaload, 1) := by decide +kernel
theorem dX9_together_45 : decode cX9_together 45 = .ok (.isub, 1) := by decide +kernel
theorem dX9_together_46 : decode cX9_together 46 = .ok (.i2l, 1) := by decide +kernel
theorem dX9_together_47 : decode cX9_together 47 = .ok (.lmul, 1) := by decide +kernel
theorem dX9_together_48 : decode cX9_together 48 = .ok (.lstore_n 2, 1) := by decide +kernel
theorem dX9_together_49 : decode cX9_together 49 = .ok (.iinc 4 1, 3) := by decide +kernel
theorem dX9_together_52 : decode cX9_together 52 = .ok (.goto (-47), 3) := by decide +kernel
theorem dX9_together_55 : decode cX9_together 55 = .ok (.lload_n 2, 1) := by decide +kernel
theorem dX9_together_56 : decode cX9_together 56 = .ok (.lreturn, 1) := by decide +kernel
theorem dX9_broken_0 : decode cX9_broken 0 = .ok (.iconst 0, 1) := by decide +kernel
theorem dX9_broken_1 : decode cX9_broken 1 = .ok (.istore_n 2, 1) := by decide +kernel
theorem dX9_broken_2 : decode cX9_broken 2 = .ok (.iconst 0, 1) := by decide +kernel
theorem dX9_broken_3 : decode cX9_broken 3 = .ok (.istore_n 3, 1) := by decide +kernel
theorem dX9_broken_4 : decode cX9_broken 4 = .ok (.iload_n 3, 1) := by decide +kernel
theorem dX9_broken_5 : decode cX9_broken 5 = .ok (.aload_n 0, 1) := by decide +kernel
theorem dX9_broken_6 : decode cX9_broken 6 = .ok (.getfield 121, 3) := by decide +kernel
theorem dX9_broken_9 : decode cX9_broken 9 = .ok (.if_icmp .ge 27, 3) := by decide +kernel
theorem dX9_broken_12 : decode cX9_broken 12 = .ok (.iload_n 1, 1) := by decide +kernel
theorem dX9_broken_13 : decode cX9_broken 13 = .ok (.iload_n 3, 1) := by decide +kernel
theorem dX9_broken_14 : decode cX9_broken 14 = .ok (.ishr, 1) := by decide +kernel
theorem dX9_broken_15 : decode cX9_broken 15 = .ok (.iconst 1, 1) := by decide +kernel
theorem dX9_broken_16 : decode cX9_broken 16 = .ok (.iand, 1) := by decide +kernel
theorem dX9_broken_17 : decode cX9_broken 17 = .ok (.iconst 1, 1) := by decide +kernel
theorem dX9_broken_18 : decode cX9_broken 18 = .ok (.if_icmp .ne 12, 3) := by decide +kernel
theorem dX9_broken_21 : decode cX9_broken 21 = .ok (.iload_n 2, 1) := by decide +kernel
theorem dX9_broken_22 : decode cX9_broken 22 = .ok (.aload_n 0, 1) := by decide +kernel
theorem dX9_broken_23 : decode cX9_broken 23 = .ok (.getfield 37, 3) := by decide +kernel
theorem dX9_broken_26 : decode cX9_broken 26 = .ok (.iload_n 3, 1) := by decide +kernel
theorem dX9_broken_27 : decode cX9_broken 27 = .ok (.iaload, 1) := by decide +kernel
theorem dX9_broken_28 : decode cX9_broken 28 = .ok (.ior, 1) := by decide +kernel
theorem dX9_broken_29 : decode cX9_broken 29 = .ok (.istore_n 2, 1) := by decide +kernel
theorem dX9_broken_30 : decode cX9_broken 30 = .ok (.iinc 3 1, 3) := by decide +kernel
theorem dX9_broken_33 : decode cX9_broken 33 = .ok (.goto (-29), 3) := by decide +kernel
theorem dX9_broken_36 : decode cX9_broken 36 = .ok (.iload_n 2, 1) := by decide +kernel
theorem dX9_broken_37 : decode cX9_broken 37 = .ok (.ireturn, 1) := by decide +kernel
theorem dX9_chance_0 : decode cX9_chance 0 = .ok (.lconst 0, 1) := by decide +kernel
theorem dX9_chance_1 : decode cX9_chance 1 = .ok (.lstore_n 1, 1) := by decide +kernel
theorem dX9_chance_2 : decode cX9_chance 2 = .ok (.iconst 0, 1) := by decide +kernel
theorem dX9_chance_3 : decode cX9_chance 3 = .ok (.istore_n 3, 1) := by decide +kernel
theorem dX9_chance_4 : decode cX9_chance 4 = .ok (.iload_n 3, 1) := by decide +kernel
theorem dX9_chance_5 : decode cX9_chance 5 = .ok (.iconst 1, 1) := by decide +kernel
theorem dX9_chance_6 : decode cX9_chance 6 = .ok (.aload_n 0, 1) := by decide +kernel
theorem dX9_chance_7 : decode cX9_chance 7 = .ok (.getfield 121, 3) := by decide +kernel
theorem dX9_chance_10 : decode cX9_chance 10 = .ok (.ishl, 1) := by decide +kernel
theorem dX9_chance_11 : decode cX9_chance 11 = .ok (.if_icmp .ge 70, 3) := by decide +kernel
theorem dX9_chance_14 : decode cX9_chance 14 = .ok (.aload_n 0, 1) := by decide +kernel
theorem dX9_chance_15 : decode cX9_chance 15 = .ok (.iload_n 3, 1) := by decide +kernel
theorem dX9_chance_16 : decode cX9_chance 16 = .ok (.invokevirtual 225, 3) := by decide +kernel
theorem dX9_chance_19 : decode cX9_chance 19 = .ok (.lstore 4, 2) := by decide +kernel
theorem dX9_chance_21 : decode cX9_chance 21 = .ok (.iconst 0, 1) := by decide +kernel
theorem dX9_chance_22 : decode cX9_chance 22 = .ok (.istore 6, 2) := by decide +kernel
theorem dX9_chance_24 : decode cX9_chance 24 = .ok (.iload 6, 2) := by decide +kernel
theorem dX9_chance_26 : decode cX9_chance 26 = .ok (.iconst 1, 1) := by decide +kernel
theorem dX9_chance_27 : decode cX9_chance 27 = .ok (.aload_n 0, 1) := by decide +kernel
theorem dX9_chance_28 : decode cX9_chance 28 = .ok (.getfield 90, 3) := by decide +kernel
theorem dX9_chance_31 : decode cX9_chance 31 = .ok (.ishl, 1) := by decide +kernel
theorem dX9_chance_32 : decode cX9_chance 32 = .ok (.if_icmp .ge 43, 3) := by decide +kernel
theorem dX9_chance_35 : decode cX9_chance 35 = .ok (.lload 4, 2) := by decide +kernel
theorem dX9_chance_37 : decode cX9_chance 37 = .ok (.lconst 0, 1) := by decide +kernel
theorem dX9_chance_38 : decode cX9_chance 38 = .ok (.lcmp, 1) := by decide +kernel
theorem dX9_chance_39 : decode cX9_chance 39 = .ok (.ifCond .le 36, 3) := by decide +kernel
theorem dX9_chance_42 : decode cX9_chance 42 = .ok (.aload_n 0, 1) := by decide +kernel
theorem dX9_chance_43 : decode cX9_chance 43 = .ok (.iload 6, 2) := by decide +kernel
theorem dX9_chance_45 : decode cX9_chance 45 = .ok (.aload_n 0, 1) := by decide +kernel
theorem dX9_chance_46 : decode cX9_chance 46 = .ok (.iload_n 3, 1) := by decide +kernel
theorem dX9_chance_47 : decode cX9_chance 47 = .ok (.invokevirtual 229, 3) := by decide +kernel
theorem dX9_chance_50 : decode cX9_chance 50 = .ok (.ior, 1) := by decide +kernel
theorem dX9_chance_51 : decode cX9_chance 51 = .ok (.invokevirtual 199, 3) := by decide +kernel
theorem dX9_chance_54 : decode cX9_chance 54 = .ok (.ifCond .eq 15, 3) := by decide +kernel
theorem dX9_chance_57 : decode cX9_chance 57 = .ok (.lload_n 1, 1) := by decide +kernel
theorem dX9_chance_58 : decode cX9_chance 58 = .ok (.lload 4, 2) := by decide +kernel
theorem dX9_chance_60 : decode cX9_chance 60 = .ok (.aload_n 0, 1) := by decide +kernel
theorem dX9_chance_61 : decode cX9_chance 61 = .ok (.iload 6, 2) := by decide +kernel
theorem dX9_chance_63 : decode cX9_chance 63 = .ok (.invokevirtual 232, 3) := by decide +kernel
theorem dX9_chance_66 : decode cX9_chance 66 = .ok (.lmul, 1) := by decide +kernel
theorem dX9_chance_67 : decode cX9_chance 67 = .ok (.ladd, 1) := by decide +kernel
theorem dX9_chance_68 : decode cX9_chance 68 = .ok (.lstore_n 1, 1) := by decide +kernel
theorem dX9_chance_69 : decode cX9_chance 69 = .ok (.iinc 6 1, 3) := by decide +kernel
theorem dX9_chance_72 : decode cX9_chance 72 = .ok (.goto (-48), 3) := by decide +kernel
theorem dX9_chance_75 : decode cX9_chance 75 = .ok (.iinc 3 1, 3) := by decide +kernel
theorem dX9_chance_78 : decode cX9_chance 78 = .ok (.goto (-74), 3) := by decide +kernel
theorem dX9_chance_81 : decode cX9_chance 81 = .ok (.lload_n 1, 1) := by decide +kernel
theorem dX9_chance_82 : decode cX9_chance 82 = .ok (.lreturn, 1) := by decide +kernel
theorem dX9_whole_0 : decode cX9_whole 0 = .ok (.lconst 1, 1) := by decide +kernel
theorem dX9_whole_1 : decode cX9_whole 1 = .ok (.lstore_n 1, 1) := by decide +kernel
theorem dX9_whole_2 : decode cX9_whole 2 = .ok (.iconst 0, 1) := by decide +kernel
theorem dX9_whole_3 : decode cX9_whole 3 = .ok (.istore_n 3, 1) := by decide +kernel
theorem dX9_whole_4 : decode cX9_whole 4 = .ok (.iload_n 3, 1) := by decide +kernel
theorem dX9_whole_5 : decode cX9_whole 5 = .ok (.aload_n 0, 1) := by decide +kernel
theorem dX9_whole_6 : decode cX9_whole 6 = .ok (.getfield 90, 3) := by decide +kernel
theorem dX9_whole_9 : decode cX9_whole 9 = .ok (.aload_n 0, 1) := by decide +kernel
theorem dX9_whole_10 : decode cX9_whole 10 = .ok (.getfield 121, 3) := by decide +kernel
theorem dX9_whole_13 : decode cX9_whole 13 = .ok (.iadd, 1) := by decide +kernel
theorem dX9_whole_14 : decode cX9_whole 14 = .ok (.if_icmp .ge 15, 3) := by decide +kernel
theorem dX9_whole_17 : decode cX9_whole 17 = .ok (.lload_n 1, 1) := by decide +kernel
theorem dX9_whole_18 : decode cX9_whole 18 = .ok (.ldc2_w 235, 3) := by decide +kernel
theorem dX9_whole_21 : decode cX9_whole 21 = .ok (.lmul, 1) := by decide +kernel
theorem dX9_whole_22 : decode cX9_whole 22 = .ok (.lstore_n 1, 1) := by decide +kernel
theorem dX9_whole_23 : decode cX9_whole 23 = .ok (.iinc 3 1, 3) := by decide +kernel
theorem dX9_whole_26 : decode cX9_whole 26 = .ok (.goto (-22), 3) := by decide +kernel
theorem dX9_whole_29 : decode cX9_whole 29 = .ok (.lload_n 1, 1) := by decide +kernel
theorem dX9_whole_30 : decode cX9_whole 30 = .ok (.lreturn, 1) := by decide +kernel
theorem dX9_common_0 : decode cX9_common 0 = .ok (.lload_n 2, 1) := by decide +kernel
theorem dX9_common_1 : decode cX9_common 1 = .ok (.lconst 0, 1) := by decide +kernel
theorem dX9_common_2 : decode cX9_common 2 = .ok (.lcmp, 1) := by decide +kernel
theorem dX9_common_3 : decode cX9_common 3 = .ok (.ifCond .ne 7, 3) := by decide +kernel
theorem dX9_common_6 : decode cX9_common 6 = .ok (.lload_n 0, 1) := by decide +kernel
theorem dX9_common_7 : decode cX9_common 7 = .ok (.goto 10, 3) := by decide +kernel
theorem dX9_common_10 : decode cX9_common 10 = .ok (.lload_n 2, 1) := by decide +kernel
theorem dX9_common_11 : decode cX9_common 11 = .ok (.lload_n 0, 1) := by decide +kernel
theorem dX9_common_12 : decode cX9_common 12 = .ok (.lload_n 2, 1) := by decide +kernel
theorem dX9_common_13 : decode cX9_common 13 = .ok (.lrem, 1) := by decide +kernel
theorem dX9_common_14 : decode cX9_common 14 = .ok (.invokestatic 237, 3) := by decide +kernel
theorem dX9_common_17 : decode cX9_common 17 = .ok (.lreturn, 1) := by decide +kernel
theorem dX9_line_0 : decode cX9_line 0 = .ok (.lload_n 0, 1) := by decide +kernel
theorem dX9_line_1 : decode cX9_line 1 = .ok (.lload_n 2, 1) := by decide +kernel
theorem dX9_line_2 : decode cX9_line 2 = .ok (.invokestatic 237, 3) := by decide +kernel
theorem dX9_line_5 : decode cX9_line 5 = .ok (.lstore 5, 2) := by decide +kernel
theorem dX9_line_7 : decode cX9_line 7 = .ok (.iload 4, 2) := by decide +kernel
theorem dX9_line_9 : decode cX9_line 9 = .ok (.ifCond .ne 10, 3) := by decide +kernel
theorem dX9_line_12 : decode cX9_line 12 = .ok (.lload_n 0, 1) := by decide +kernel
theorem dX9_line_13 : decode cX9_line 13 = .ok (.lload 5, 2) := by decide +kernel
theorem dX9_line_15 : decode cX9_line 15 = .ok (.ldiv, 1) := by decide +kernel
theorem dX9_line_16 : decode cX9_line 16 = .ok (.goto 7, 3) := by decide +kernel
theorem dX9_line_19 : decode cX9_line 19 = .ok (.lload_n 2, 1) := by decide +kernel
theorem dX9_line_20 : decode cX9_line 20 = .ok (.lload 5, 2) := by decide +kernel
theorem dX9_line_22 : decode cX9_line 22 = .ok (.ldiv, 1) := by decide +kernel
theorem dX9_line_23 : decode cX9_line 23 = .ok (.lreturn, 1) := by decide +kernel
theorem dX9_chance__0 : decode cX9_chance_ 0 = .ok (.aload_n 0, 1) := by decide +kernel
theorem dX9_chance__1 : decode cX9_chance_ 1 = .ok (.getfield 97, 3) := by decide +kernel
theorem dX9_chance__4 : decode cX9_chance_ 4 = .ok (.ifCond .eq 12, 3) := by decide +kernel
theorem dX9_chance__7 : decode cX9_chance_ 7 = .ok (.iload_n 1, 1) := by decide +kernel
theorem dX9_chance__8 : decode cX9_chance_ 8 = .ok (.iconst 0, 1) := by decide +kernel
theorem dX9_chance__9 : decode cX9_chance_ 9 = .ok (.iconst 1, 1) := by decide +kernel
theorem dX9_chance__10 : decode cX9_chance_ 10 = .ok (.invokestatic 93, 3) := by decide +kernel
theorem dX9_chance__13 : decode cX9_chance_ 13 = .ok (.ifCond .ne 9, 3) := by decide +kernel
theorem dX9_chance__16 : decode cX9_chance_ 16 = .ok (.ldc2_w 241, 3) := by decide +kernel
theorem dX9_chance__19 : decode cX9_chance_ 19 = .ok (.goto 15, 3) := by decide +kernel
theorem dX9_chance__22 : decode cX9_chance_ 22 = .ok (.aload_n 0, 1) := by decide +kernel
theorem dX9_chance__23 : decode cX9_chance_ 23 = .ok (.invokevirtual 243, 3) := by decide +kernel
theorem dX9_chance__26 : decode cX9_chance_ 26 = .ok (.aload_n 0, 1) := by decide +kernel
theorem dX9_chance__27 : decode cX9_chance_ 27 = .ok (.invokevirtual 246, 3) := by decide +kernel
theorem dX9_chance__30 : decode cX9_chance_ 30 = .ok (.iload_n 1, 1) := by decide +kernel
theorem dX9_chance__31 : decode cX9_chance_ 31 = .ok (.invokestatic 249, 3) := by decide +kernel
theorem dX9_chance__34 : decode cX9_chance_ 34 = .ok (.lreturn, 1) := by decide +kernel
theorem dX9_given_0 : decode cX9_given 0 = .ok (.aload_n 0, 1) := by decide +kernel
theorem dX9_given_1 : decode cX9_given 1 = .ok (.getfield 97, 3) := by decide +kernel
theorem dX9_given_4 : decode cX9_given 4 = .ok (.ifCond .eq 26, 3) := by decide +kernel
theorem dX9_given_7 : decode cX9_given 7 = .ok (.iload_n 1, 1) := by decide +kernel
theorem dX9_given_8 : decode cX9_given 8 = .ok (.iconst 0, 1) := by decide +kernel
theorem dX9_given_9 : decode cX9_given 9 = .ok (.aload_n 0, 1) := by decide +kernel
theorem dX9_given_10 : decode cX9_given 10 = .ok (.getfield 121, 3) := by decide +kernel
theorem dX9_given_13 : decode cX9_given 13 = .ok (.iconst 1, 1) := by decide +kernel
theorem dX9_given_14 : decode cX9_given 14 = .ok (.isub, 1) := by decide +kernel
theorem dX9_given_15 : decode cX9_given 15 = .ok (.invokestatic 93, 3) := by decide +kernel
theorem dX9_given_18 : decode cX9_given 18 = .ok (.ifCond .eq 12, 3) := by decide +kernel
theorem dX9_given_21 : decode cX9_given 21 = .ok (.iload_n 3, 1) := by decide +kernel
theorem dX9_given_22 : decode cX9_given 22 = .ok (.iconst 0, 1) := by decide +kernel
theorem dX9_given_23 : decode cX9_given 23 = .ok (.iconst 1, 1) := by decide +kernel
theorem dX9_given_24 : decode cX9_given 24 = .ok (.invokestatic 93, 3) := by decide +kernel
theorem dX9_given_27 : decode cX9_given 27 = .ok (.ifCond .ne 7, 3) := by decide +kernel
theorem dX9_given_30 : decode cX9_given 30 = .ok (.ldc2_w 241, 3) := by decide +kernel
theorem dX9_given_33 : decode cX9_given 33 = .ok (.lreturn, 1) := by decide +kernel
theorem dX9_given_34 : decode cX9_given 34 = .ok (.aload_n 0, 1) := by decide +kernel
theorem dX9_given_35 : decode cX9_given 35 = .ok (.getfield 34, 3) := by decide +kernel
theorem dX9_given_38 : decode cX9_given 38 = .ok (.iload_n 1, 1) := by decide +kernel
theorem dX9_given_39 : decode cX9_given 39 = .ok (.iaload, 1) := by decide +kernel
theorem dX9_given_40 : decode cX9_given 40 = .ok (.istore 4, 2) := by decide +kernel
theorem dX9_given_42 : decode cX9_given 42 = .ok (.aload_n 0, 1) := by decide +kernel
theorem dX9_given_43 : decode cX9_given 43 = .ok (.getfield 34, 3) := by decide +kernel
theorem dX9_given_46 : decode cX9_given 46 = .ok (.iload_n 1, 1) := by decide +kernel
theorem dX9_given_47 : decode cX9_given 47 = .ok (.iload_n 2, 1) := by decide +kernel
theorem dX9_given_48 : decode cX9_given 48 = .ok (.ifCond .eq 8, 3) := by decide +kernel
theorem dX9_given_51 : decode cX9_given 51 = .ok (.bipush 100, 2) := by decide +kernel
theorem dX9_given_53 : decode cX9_given 53 = .ok (.goto 4, 3) := by decide +kernel
theorem dX9_given_56 : decode cX9_given 56 = .ok (.iconst 0, 1) := by decide +kernel
theorem dX9_given_57 : decode cX9_given 57 = .ok (.iastore, 1) := by decide +kernel
theorem dX9_given_58 : decode cX9_given 58 = .ok (.aload_n 0, 1) := by decide +kernel
theorem dX9_given_59 : decode cX9_given 59 = .ok (.invokevirtual 243, 3) := by decide +kernel
theorem dX9_given_62 : decode cX9_given 62 = .ok (.aload_n 0, 1) := by decide +kernel
theorem dX9_given_63 : decode cX9_given 63 = .ok (.invokevirtual 246, 3) := by decide +kernel
theorem dX9_given_66 : decode cX9_given 66 = .ok (.iload_n 3, 1) := by decide +kernel
theorem dX9_given_67 : decode cX9_given 67 = .ok (.invokestatic 249, 3) := by decide +kernel
theorem dX9_given_70 : decode cX9_given 70 = .ok (.lstore 5, 2) := by decide +kernel
theorem dX9_given_72 : decode cX9_given 72 = .ok (.aload_n 0, 1) := by decide +kernel
theorem dX9_given_73 : decode cX9_given 73 = .ok (.getfield 34, 3) := by decide +kernel
theorem dX9_given_76 : decode cX9_given 76 = .ok (.iload_n 1, 1) := by decide +kernel
theorem dX9_given_77 : decode cX9_given 77 = .ok (.iload 4, 2) := by decide +kernel
theorem dX9_given_79 : decode cX9_given 79 = .ok (.iastore, 1) := by decide +kernel
theorem dX9_given_80 : decode cX9_given 80 = .ok (.lload 5, 2) := by decide +kernel
theorem dX9_given_82 : decode cX9_given 82 = .ok (.lreturn, 1) := by decide +kernel
theorem dX9_weight_0 : decode cX9_weight 0 = .ok (.aload_n 0, 1) := by decide +kernel
theorem dX9_weight_1 : decode cX9_weight 1 = .ok (.getfield 9, 3) := by decide +kernel
theorem dX9_weight_4 : decode cX9_weight 4 = .ok (.iload_n 1, 1) := by decide +kernel
theorem dX9_weight_5 : decode cX9_weight 5 = .ok (.iaload, 1) := by decide +kernel
theorem dX9_weight_6 : decode cX9_weight 6 = .ok (.istore_n 2, 1) := by decide +kernel
theorem dX9_weight_7 : decode cX9_weight 7 = .ok (.aload_n 0, 1) := by decide +kernel
theorem dX9_weight_8 : decode cX9_weight 8 = .ok (.getfield 9, 3) := by decide +kernel
theorem dX9_weight_11 : decode cX9_weight 11 = .ok (.iload_n 1, 1) := by decide +kernel
theorem dX9_weight_12 : decode cX9_weight 12 = .ok (.bipush 100, 2) := by decide +kernel
theorem dX9_weight_14 : decode cX9_weight 14 = .ok (.iastore, 1) := by decide +kernel
theorem dX9_weight_15 : decode cX9_weight 15 = .ok (.aload_n 0, 1) := by decide +kernel
theorem dX9_weight_16 : decode cX9_weight 16 = .ok (.invokevirtual 243, 3) := by decide +kernel
theorem dX9_weight_19 : decode cX9_weight 19 = .ok (.lstore_n 3, 1) := by decide +kernel
theorem dX9_weight_20 : decode cX9_weight 20 = .ok (.aload_n 0, 1) := by decide +kernel
theorem dX9_weight_21 : decode cX9_weight 21 = .ok (.getfield 9, 3) := by decide +kernel
theorem dX9_weight_24 : decode cX9_weight 24 = .ok (.iload_n 1, 1) := by decide +kernel
theorem dX9_weight_25 : decode cX9_weight 25 = .ok (.iconst 0, 1) := by decide +kernel
theorem dX9_weight_26 : decode cX9_weight 26 = .ok (.iastore, 1) := by decide +kernel
theorem dX9_weight_27 : decode cX9_weight 27 = .ok (.lload_n 3, 1) := by decide +kernel
theorem dX9_weight_28 : decode cX9_weight 28 = .ok (.aload_n 0, 1) := by decide +kernel
theorem dX9_weight_29 : decode cX9_weight 29 = .ok (.invokevirtual 243, 3) := by decide +kernel
theorem dX9_weight_32 : decode cX9_weight 32 = .ok (.lsub, 1) := by decide +kernel
theorem dX9_weight_33 : decode cX9_weight 33 = .ok (.lstore_n 3, 1) := by decide +kernel
theorem dX9_weight_34 : decode cX9_weight 34 = .ok (.aload_n 0, 1) := by decide +kernel
theorem dX9_weight_35 : decode cX9_weight 35 = .ok (.getfield 9, 3) := by decide +kernel
theorem dX9_weight_38 : decode cX9_weight 38 = .ok (.iload_n 1, 1) := by decide +kernel
theorem dX9_weight_39 : decode cX9_weight 39 = .ok (.iload_n 2, 1) := by decide +kernel
theorem dX9_weight_40 : decode cX9_weight 40 = .ok (.iastore, 1) := by decide +kernel
theorem dX9_weight_41 : decode cX9_weight 41 = .ok (.lload_n 3, 1) := by decide +kernel
theorem dX9_weight_42 : decode cX9_weight 42 = .ok (.lreturn, 1) := by decide +kernel
theorem dX9_weight__0 : decode cX9_weight_ 0 = .ok (.aload_n 0, 1) := by decide +kernel
theorem dX9_weight__1 : decode cX9_weight_ 1 = .ok (.getfield 97, 3) := by decide +kernel
theorem dX9_weight__4 : decode cX9_weight_ 4 = .ok (.ifCond .eq 20, 3) := by decide +kernel
theorem dX9_weight__7 : decode cX9_weight_ 7 = .ok (.aload_n 0, 1) := by decide +kernel
theorem dX9_weight__8 : decode cX9_weight_ 8 = .ok (.iload_n 1, 1) := by decide +kernel
theorem dX9_weight__9 : decode cX9_weight_ 9 = .ok (.invokevirtual 111, 3) := by decide +kernel
theorem dX9_weight__12 : decode cX9_weight_ 12 = .ok (.ifCond .eq 12, 3) := by decide +kernel
theorem dX9_weight__15 : decode cX9_weight_ 15 = .ok (.iload_n 2, 1) := by decide +kernel
theorem dX9_weight__16 : decode cX9_weight_ 16 = .ok (.iconst 0, 1) := by decide +kernel
theorem dX9_weight__17 : decode cX9_weight_ 17 = .ok (.iconst 1, 1) := by decide +kernel
theorem dX9_weight__18 : decode cX9_weight_ 18 = .ok (.invokestatic 93, 3) := by decide +kernel
theorem dX9_weight__21 : decode cX9_weight_ 21 = .ok (.ifCond .ne 9, 3) := by decide +kernel
theorem dX9_weight__24 : decode cX9_weight_ 24 = .ok (.ldc2_w 241, 3) := by decide +kernel
theorem dX9_weight__27 : decode cX9_weight_ 27 = .ok (.goto 16, 3) := by decide +kernel
theorem dX9_weight__30 : decode cX9_weight_ 30 = .ok (.aload_n 0, 1) := by decide +kernel
theorem dX9_weight__31 : decode cX9_weight_ 31 = .ok (.iload_n 1, 1) := by decide +kernel
theorem dX9_weight__32 : decode cX9_weight_ 32 = .ok (.invokevirtual 253, 3) := by decide +kernel
theorem dX9_weight__35 : decode cX9_weight_ 35 = .ok (.aload_n 0, 1) := by decide +kernel
theorem dX9_weight__36 : decode cX9_weight_ 36 = .ok (.invokevirtual 246, 3) := by decide +kernel
theorem dX9_weight__39 : decode cX9_weight_ 39 = .ok (.iload_n 2, 1) := by decide +kernel
theorem dX9_weight__40 : decode cX9_weight_ 40 = .ok (.invokestatic 249, 3) := by decide +kernel
theorem dX9_weight__43 : decode cX9_weight_ 43 = .ok (.lreturn, 1) := by decide +kernel
theorem dX9_most_0 : decode cX9_most 0 = .ok (.bipush (-5), 2) := by decide +kernel
theorem dX9_most_2 : decode cX9_most 2 = .ok (.istore_n 1, 1) := by decide +kernel
theorem dX9_most_3 : decode cX9_most 3 = .ok (.ldc2_w 182, 3) := by decide +kernel
theorem dX9_most_6 : decode cX9_most 6 = .ok (.lstore_n 2, 1) := by decide +kernel
theorem dX9_most_7 : decode cX9_most 7 = .ok (.iconst 0, 1) := by decide +kernel
theorem dX9_most_8 : decode cX9_most 8 = .ok (.istore 4, 2) := by decide +kernel
theorem dX9_most_10 : decode cX9_most 10 = .ok (.iload 4, 2) := by decide +kernel
theorem dX9_most_12 : decode cX9_most 12 = .ok (.aload_n 0, 1) := by decide +kernel
theorem dX9_most_13 : decode cX9_most 13 = .ok (.getfield 90, 3) := by decide +kernel
theorem dX9_most_16 : decode cX9_most 16 = .ok (.if_icmp .ge 33, 3) := by decide +kernel
theorem dX9_most_19 : decode cX9_most 19 = .ok (.aload_n 0, 1) := by decide +kernel
theorem dX9_most_20 : decode cX9_most 20 = .ok (.iload 4, 2) := by decide +kernel
theorem dX9_most_22 : decode cX9_most 22 = .ok (.invokevirtual 253, 3) := by decide +kernel
theorem dX9_most_25 : decode cX9_most 25 = .ok (.lstore 5, 2) := by decide +kernel
theorem dX9_most_27 : decode cX9_most 27 = .ok (.lload 5, 2) := by decide +kernel
theorem dX9_most_29 : decode cX9_most 29 = .ok (.lload_n 2, 1) := by decide +kernel
theorem dX9_most_30 : decode cX9_most 30 = .ok (.lcmp, 1) := by decide +kernel
theorem dX9_most_31 : decode cX9_most 31 = .ok (.ifCond .gt 6, 3) := by decide +kernel
theorem dX9_most_34 : decode cX9_most 34 = .ok (.goto 9, 3) := by decide +kernel
theorem dX9_most_37 : decode cX9_most 37 = .ok (.lload 5, 2) := by decide +kernel
theorem dX9_most_39 : decode cX9_most 39 = .ok (.lstore_n 2, 1) := by decide +kernel
theorem dX9_most_40 : decode cX9_most 40 = .ok (.iload 4, 2) := by decide +kernel
theorem dX9_most_42 : decode cX9_most 42 = .ok (.istore_n 1, 1) := by decide +kernel
theorem dX9_most_43 : decode cX9_most 43 = .ok (.iinc 4 1, 3) := by decide +kernel
theorem dX9_most_46 : decode cX9_most 46 = .ok (.goto (-36), 3) := by decide +kernel
theorem dX9_most_49 : decode cX9_most 49 = .ok (.iload_n 1, 1) := by decide +kernel
theorem dX9_most_50 : decode cX9_most 50 = .ok (.ireturn, 1) := by decide +kernel
theorem dX9_many__0 : decode cX9_many_ 0 = .ok (.aload_n 0, 1) := by decide +kernel
theorem dX9_many__1 : decode cX9_many_ 1 = .ok (.iload_n 1, 1) := by decide +kernel
theorem dX9_many__2 : decode cX9_many_ 2 = .ok (.invokevirtual 218, 3) := by decide +kernel
theorem dX9_many__5 : decode cX9_many_ 5 = .ok (.aload_n 0, 1) := by decide +kernel
theorem dX9_many__6 : decode cX9_many_ 6 = .ok (.getfield 209, 3) := by decide +kernel
theorem dX9_many__9 : decode cX9_many_ 9 = .ok (.ireturn, 1) := by decide +kernel
theorem dX9_drawn_0 : decode cX9_drawn 0 = .ok (.aload_n 0, 1) := by decide +kernel
theorem dX9_drawn_1 : decode cX9_drawn 1 = .ok (.invokevirtual 202, 3) := by decide +kernel
theorem dX9_drawn_4 : decode cX9_drawn 4 = .ok (.pop, 1) := by decide +kernel
theorem dX9_drawn_5 : decode cX9_drawn 5 = .ok (.aload_n 0, 1) := by decide +kernel
theorem dX9_drawn_6 : decode cX9_drawn 6 = .ok (.getfield 188, 3) := by decide +kernel
theorem dX9_drawn_9 : decode cX9_drawn 9 = .ok (.ireturn, 1) := by decide +kernel
theorem dX9_ever_0 : decode cX9_ever 0 = .ok (.aload_n 0, 1) := by decide +kernel
theorem dX9_ever_1 : decode cX9_ever 1 = .ok (.invokevirtual 202, 3) := by decide +kernel
theorem dX9_ever_4 : decode cX9_ever 4 = .ok (.istore_n 1, 1) := by decide +kernel
theorem dX9_ever_5 : decode cX9_ever 5 = .ok (.iload_n 1, 1) := by decide +kernel
theorem dX9_ever_6 : decode cX9_ever 6 = .ok (.bipush (-7), 2) := by decide +kernel
theorem dX9_ever_8 : decode cX9_ever 8 = .ok (.if_icmp .ne 7, 3) := by decide +kernel
theorem dX9_ever_11 : decode cX9_ever 11 = .ok (.iconst 1, 1) := by decide +kernel
theorem dX9_ever_12 : decode cX9_ever 12 = .ok (.goto 14, 3) := by decide +kernel
theorem dX9_ever_15 : decode cX9_ever 15 = .ok (.iload_n 1, 1) := by decide +kernel
theorem dX9_ever_16 : decode cX9_ever 16 = .ok (.bipush (-6), 2) := by decide +kernel
theorem dX9_ever_18 : decode cX9_ever 18 = .ok (.if_icmp .ne 7, 3) := by decide +kernel
theorem dX9_ever_21 : decode cX9_ever 21 = .ok (.iconst (-1), 1) := by decide +kernel
theorem dX9_ever_22 : decode cX9_ever 22 = .ok (.goto 4, 3) := by decide +kernel
theorem dX9_ever_25 : decode cX9_ever 25 = .ok (.iconst 0, 1) := by decide +kernel
theorem dX9_ever_26 : decode cX9_ever 26 = .ok (.ireturn, 1) := by decide +kernel
theorem dX9_told_0 : decode cX9_told 0 = .ok (.iload_n 1, 1) := by decide +kernel
theorem dX9_told_1 : decode cX9_told 1 = .ok (.iconst 0, 1) := by decide +kernel
theorem dX9_told_2 : decode cX9_told 2 = .ok (.bipush 8, 2) := by decide +kernel
theorem dX9_told_4 : decode cX9_told 4 = .ok (.invokestatic 93, 3) := by decide +kernel
theorem dX9_told_7 : decode cX9_told 7 = .ok (.ifCond .ne 5, 3) := by decide +kernel
theorem dX9_told_10 : decode cX9_told 10 = .ok (.iconst (-1), 1) := by decide +kernel
theorem dX9_told_11 : decode cX9_told 11 = .ok (.ireturn, 1) := by decide +kernel
theorem dX9_told_12 : decode cX9_told 12 = .ok (.iload_n 1, 1) := by decide +kernel
theorem dX9_told_13 : decode cX9_told 13 = .ok (.iconst 3, 1) := by decide +kernel
theorem dX9_told_14 : decode cX9_told 14 = .ok (.if_icmp .le 13, 3) := by decide +kernel
theorem dX9_told_17 : decode cX9_told 17 = .ok (.aload_n 0, 1) := by decide +kernel
theorem dX9_told_18 : decode cX9_told 18 = .ok (.getfield 97, 3) := by decide +kernel
theorem dX9_told_21 : decode cX9_told 21 = .ok (.ifCond .ne 6, 3) := by decide +kernel
theorem dX9_told_24 : decode cX9_told 24 = .ok (.bipush (-3), 2) := by decide +kernel
theorem dX9_told_26 : decode cX9_told 26 = .ok (.ireturn, 1) := by decide +kernel
theorem dX9_told_27 : decode cX9_told 27 = .ok (.iload_n 1, 1) := by decide +kernel
theorem dX9_told_28 : decode cX9_told 28 = .ok (.tableswitch 90 0 7 #[48, 53, 58, 63, 68, 73, 79, 85], 48) := by decide +kernel
theorem dX9_told_76 : decode cX9_told 76 = .ok (.aload_n 0, 1) := by decide +kernel
theorem dX9_told_77 : decode cX9_told 77 = .ok (.getfield 90, 3) := by decide +kernel
theorem dX9_told_80 : decode cX9_told 80 = .ok (.ireturn, 1) := by decide +kernel
theorem dX9_told_81 : decode cX9_told 81 = .ok (.aload_n 0, 1) := by decide +kernel
theorem dX9_told_82 : decode cX9_told 82 = .ok (.getfield 97, 3) := by decide +kernel
theorem dX9_told_85 : decode cX9_told 85 = .ok (.ireturn, 1) := by decide +kernel
theorem dX9_told_86 : decode cX9_told 86 = .ok (.aload_n 0, 1) := by decide +kernel
theorem dX9_told_87 : decode cX9_told 87 = .ok (.getfield 121, 3) := by decide +kernel
theorem dX9_told_90 : decode cX9_told 90 = .ok (.ireturn, 1) := by decide +kernel
theorem dX9_told_91 : decode cX9_told 91 = .ok (.aload_n 0, 1) := by decide +kernel
theorem dX9_told_92 : decode cX9_told 92 = .ok (.invokevirtual 114, 3) := by decide +kernel
theorem dX9_told_95 : decode cX9_told 95 = .ok (.ireturn, 1) := by decide +kernel
theorem dX9_told_96 : decode cX9_told 96 = .ok (.aload_n 0, 1) := by decide +kernel
theorem dX9_told_97 : decode cX9_told 97 = .ok (.invokevirtual 256, 3) := by decide +kernel
theorem dX9_told_100 : decode cX9_told 100 = .ok (.ireturn, 1) := by decide +kernel
theorem dX9_told_101 : decode cX9_told 101 = .ok (.aload_n 0, 1) := by decide +kernel
theorem dX9_told_102 : decode cX9_told 102 = .ok (.iconst 1, 1) := by decide +kernel
theorem dX9_told_103 : decode cX9_told 103 = .ok (.invokevirtual 259, 3) := by decide +kernel
theorem dX9_told_106 : decode cX9_told 106 = .ok (.ireturn, 1) := by decide +kernel
theorem dX9_told_107 : decode cX9_told 107 = .ok (.aload_n 0, 1) := by decide +kernel
theorem dX9_told_108 : decode cX9_told 108 = .ok (.iconst 0, 1) := by decide +kernel
theorem dX9_told_109 : decode cX9_told 109 = .ok (.invokevirtual 259, 3) := by decide +kernel
theorem dX9_told_112 : decode cX9_told 112 = .ok (.ireturn, 1) := by decide +kernel
theorem dX9_told_113 : decode cX9_told 113 = .ok (.aload_n 0, 1) := by decide +kernel
theorem dX9_told_114 : decode cX9_told 114 = .ok (.invokevirtual 262, 3) := by decide +kernel
theorem dX9_told_117 : decode cX9_told 117 = .ok (.ireturn, 1) := by decide +kernel
theorem dX9_told_118 : decode cX9_told 118 = .ok (.aload_n 0, 1) := by decide +kernel
theorem dX9_told_119 : decode cX9_told 119 = .ok (.invokevirtual 265, 3) := by decide +kernel
theorem dX9_told_122 : decode cX9_told 122 = .ok (.ireturn, 1) := by decide +kernel
theorem dX9_see_0 : decode cX9_see 0 = .ok (.iload_n 1, 1) := by decide +kernel
theorem dX9_see_1 : decode cX9_see 1 = .ok (.iconst (-1), 1) := by decide +kernel
theorem dX9_see_2 : decode cX9_see 2 = .ok (.if_icmp .ne 10, 3) := by decide +kernel
theorem dX9_see_5 : decode cX9_see 5 = .ok (.aload_n 0, 1) := by decide +kernel
theorem dX9_see_6 : decode cX9_see 6 = .ok (.iconst 0, 1) := by decide +kernel
theorem dX9_see_7 : decode cX9_see 7 = .ok (.putfield 268, 3) := by decide +kernel
theorem dX9_see_10 : decode cX9_see 10 = .ok (.iconst 0, 1) := by decide +kernel
theorem dX9_see_11 : decode cX9_see 11 = .ok (.ireturn, 1) := by decide +kernel
theorem dX9_see_12 : decode cX9_see 12 = .ok (.aload_n 0, 1) := by decide +kernel
theorem dX9_see_13 : decode cX9_see 13 = .ok (.iload_n 1, 1) := by decide +kernel
theorem dX9_see_14 : decode cX9_see 14 = .ok (.invokevirtual 118, 3) := by decide +kernel
theorem dX9_see_17 : decode cX9_see 17 = .ok (.ifCond .ne 6, 3) := by decide +kernel
theorem dX9_see_20 : decode cX9_see 20 = .ok (.bipush (-2), 2) := by decide +kernel
theorem dX9_see_22 : decode cX9_see 22 = .ok (.ireturn, 1) := by decide +kernel
theorem dX9_see_23 : decode cX9_see 23 = .ok (.aload_n 0, 1) := by decide +kernel
theorem dX9_see_24 : decode cX9_see 24 = .ok (.getfield 268, 3) := by decide +kernel
theorem dX9_see_27 : decode cX9_see 27 = .ok (.bipush 6, 2) := by decide +kernel
theorem dX9_see_29 : decode cX9_see 29 = .ok (.if_icmp .ne 6, 3) := by decide +kernel
theorem dX9_see_32 : decode cX9_see 32 = .ok (.bipush (-4), 2) := by decide +kernel
theorem dX9_see_34 : decode cX9_see 34 = .ok (.ireturn, 1) := by decide +kernel
theorem dX9_see_35 : decode cX9_see 35 = .ok (.aload_n 0, 1) := by decide +kernel
theorem dX9_see_36 : decode cX9_see 36 = .ok (.getfield 40, 3) := by decide +kernel
theorem dX9_see_39 : decode cX9_see 39 = .ok (.aload_n 0, 1) := by decide +kernel
theorem dX9_see_40 : decode cX9_see 40 = .ok (.getfield 268, 3) := by decide +kernel
theorem dX9_see_43 : decode cX9_see 43 = .ok (.iload_n 1, 1) := by decide +kernel
theorem dX9_see_44 : decode cX9_see 44 = .ok (.iastore, 1) := by decide +kernel
theorem dX9_see_45 : decode cX9_see 45 = .ok (.aload_n 0, 1) := by decide +kernel
theorem dX9_see_46 : decode cX9_see 46 = .ok (.getfield 43, 3) := by decide +kernel
theorem dX9_see_49 : decode cX9_see 49 = .ok (.aload_n 0, 1) := by decide +kernel
theorem dX9_see_50 : decode cX9_see 50 = .ok (.getfield 268, 3) := by decide +kernel
theorem dX9_see_53 : decode cX9_see 53 = .ok (.iload_n 2, 1) := by decide +kernel
theorem dX9_see_54 : decode cX9_see 54 = .ok (.ifCond .eq 7, 3) := by decide +kernel
theorem dX9_see_57 : decode cX9_see 57 = .ok (.iconst 1, 1) := by decide +kernel
theorem dX9_see_58 : decode cX9_see 58 = .ok (.goto 4, 3) := by decide +kernel
theorem dX9_see_61 : decode cX9_see 61 = .ok (.iconst 0, 1) := by decide +kernel
theorem dX9_see_62 : decode cX9_see 62 = .ok (.iastore, 1) := by decide +kernel
theorem dX9_see_63 : decode cX9_see 63 = .ok (.aload_n 0, 1) := by decide +kernel
theorem dX9_see_64 : decode cX9_see 64 = .ok (.dup, 1) := by decide +kernel
theorem dX9_see_65 : decode cX9_see 65 = .ok (.getfield 268, 3) := by decide +kernel
theorem dX9_see_68 : decode cX9_see 68 = .ok (.iconst 1, 1) := by decide +kernel
theorem dX9_see_69 : decode cX9_see 69 = .ok (.iadd, 1) := by decide +kernel
theorem dX9_see_70 : decode cX9_see 70 = .ok (.putfield 268, 3) := by decide +kernel
theorem dX9_see_73 : decode cX9_see 73 = .ok (.aload_n 0, 1) := by decide +kernel
theorem dX9_see_74 : decode cX9_see 74 = .ok (.getfield 268, 3) := by decide +kernel
theorem dX9_see_77 : decode cX9_see 77 = .ok (.ireturn, 1) := by decide +kernel
theorem dX9_isAllSo_0 : decode cX9_isAllSo 0 = .ok (.iconst 0, 1) := by decide +kernel
theorem dX9_isAllSo_1 : decode cX9_isAllSo 1 = .ok (.istore_n 1, 1) := by decide +kernel
theorem dX9_isAllSo_2 : decode cX9_isAllSo 2 = .ok (.iload_n 1, 1) := by decide +kernel
theorem dX9_isAllSo_3 : decode cX9_isAllSo 3 = .ok (.aload_n 0, 1) := by decide +kernel
theorem dX9_isAllSo_4 : decode cX9_isAllSo 4 = .ok (.getfield 268, 3) := by decide +kernel
theorem dX9_isAllSo_7 : decode cX9_isAllSo 7 = .ok (.if_icmp .ge 39, 3) := by decide +kernel
theorem dX9_isAllSo_10 : decode cX9_isAllSo 10 = .ok (.aload_n 0, 1) := by decide +kernel
theorem dX9_isAllSo_11 : decode cX9_isAllSo 11 = .ok (.aload_n 0, 1) := by decide +kernel
theorem dX9_isAllSo_12 : decode cX9_isAllSo 12 = .ok (.getfield 40, 3) := by decide +kernel
theorem dX9_isAllSo_15 : decode cX9_isAllSo 15 = .ok (.iload_n 1, 1) := by decide +kernel
theorem dX9_isAllSo_16 : decode cX9_isAllSo 16 = .ok (.iaload, 1) := by decide +kernel
theorem dX9_isAllSo_17 : decode cX9_isAllSo 17 = .ok (.invokevirtual 199, 3) := by decide +kernel
theorem dX9_isAllSo_20 : decode cX9_isAllSo 20 = .ok (.aload_n 0, 1) := by decide +kernel
theorem dX9_isAllSo_21 : decode cX9_isAllSo 21 = .ok (.getfield 43, 3) := by decide +kernel
theorem dX9_isAllSo_24 : decode cX9_isAllSo 24 = .ok (.iload_n 1, 1) := by decide +kernel
theorem dX9_isAllSo_25 : decode cX9_isAllSo 25 = .ok (.iaload, 1) := by decide +kernel
theorem dX9_isAllSo_26 : decode cX9_isAllSo 26 = .ok (.iconst 1, 1) := by decide +kernel
theorem dX9_isAllSo_27 : decode cX9_isAllSo 27 = .ok (.if_icmp .ne 7, 3) := by decide +kernel
theorem dX9_isAllSo_30 : decode cX9_isAllSo 30 = .ok (.iconst 1, 1) := by decide +kernel
theorem dX9_isAllSo_31 : decode cX9_isAllSo 31 = .ok (.goto 4, 3) := by decide +kernel
theorem dX9_isAllSo_34 : decode cX9_isAllSo 34 = .ok (.iconst 0, 1) := by decide +kernel
theorem dX9_isAllSo_35 : decode cX9_isAllSo 35 = .ok (.if_icmp .eq 5, 3) := by decide +kernel
theorem dX9_isAllSo_38 : decode cX9_isAllSo 38 = .ok (.iconst 0, 1) := by decide +kernel
theorem dX9_isAllSo_39 : decode cX9_isAllSo 39 = .ok (.ireturn, 1) := by decide +kernel
theorem dX9_isAllSo_40 : decode cX9_isAllSo 40 = .ok (.iinc 1 1, 3) := by decide +kernel
theorem dX9_isAllSo_43 : decode cX9_isAllSo 43 = .ok (.goto (-41), 3) := by decide +kernel
theorem dX9_isAllSo_46 : decode cX9_isAllSo 46 = .ok (.iconst 1, 1) := by decide +kernel
theorem dX9_isAllSo_47 : decode cX9_isAllSo 47 = .ok (.ireturn, 1) := by decide +kernel
theorem dX9_fits_0 : decode cX9_fits 0 = .ok (.aload_n 0, 1) := by decide +kernel
theorem dX9_fits_1 : decode cX9_fits 1 = .ok (.iload_n 1, 1) := by decide +kernel
theorem dX9_fits_2 : decode cX9_fits 2 = .ok (.invokevirtual 108, 3) := by decide +kernel
theorem dX9_fits_5 : decode cX9_fits 5 = .ok (.ifCond .eq 12, 3) := by decide +kernel
theorem dX9_fits_8 : decode cX9_fits 8 = .ok (.iload_n 2, 1) := by decide +kernel
theorem dX9_fits_9 : decode cX9_fits 9 = .ok (.iconst 0, 1) := by decide +kernel
theorem dX9_fits_10 : decode cX9_fits 10 = .ok (.iconst 1, 1) := by decide +kernel
theorem dX9_fits_11 : decode cX9_fits 11 = .ok (.invokestatic 93, 3) := by decide +kernel
theorem dX9_fits_14 : decode cX9_fits 14 = .ok (.ifCond .ne 5, 3) := by decide +kernel
theorem dX9_fits_17 : decode cX9_fits 17 = .ok (.iconst (-1), 1) := by decide +kernel
theorem dX9_fits_18 : decode cX9_fits 18 = .ok (.ireturn, 1) := by decide +kernel
theorem dX9_fits_19 : decode cX9_fits 19 = .ok (.aload_n 0, 1) := by decide +kernel
theorem dX9_fits_20 : decode cX9_fits 20 = .ok (.getfield 18, 3) := by decide +kernel
theorem dX9_fits_23 : decode cX9_fits 23 = .ok (.iload_n 1, 1) := by decide +kernel
theorem dX9_fits_24 : decode cX9_fits 24 = .ok (.iaload, 1) := by decide +kernel
theorem dX9_fits_25 : decode cX9_fits 25 = .ok (.istore_n 3, 1) := by decide +kernel
theorem dX9_fits_26 : decode cX9_fits 26 = .ok (.aload_n 0, 1) := by decide +kernel
theorem dX9_fits_27 : decode cX9_fits 27 = .ok (.getfield 21, 3) := by decide +kernel
theorem dX9_fits_30 : decode cX9_fits 30 = .ok (.iload_n 1, 1) := by decide +kernel
theorem dX9_fits_31 : decode cX9_fits 31 = .ok (.iaload, 1) := by decide +kernel
theorem dX9_fits_32 : decode cX9_fits 32 = .ok (.istore 4, 2) := by decide +kernel
theorem dX9_fits_34 : decode cX9_fits 34 = .ok (.aload_n 0, 1) := by decide +kernel
theorem dX9_fits_35 : decode cX9_fits 35 = .ok (.getfield 18, 3) := by decide +kernel
theorem dX9_fits_38 : decode cX9_fits 38 = .ok (.iload_n 1, 1) := by decide +kernel
theorem dX9_fits_39 : decode cX9_fits 39 = .ok (.iconst 2, 1) := by decide +kernel
theorem dX9_fits_40 : decode cX9_fits 40 = .ok (.iastore, 1) := by decide +kernel
theorem dX9_fits_41 : decode cX9_fits 41 = .ok (.iconst 0, 1) := by decide +kernel
theorem dX9_fits_42 : decode cX9_fits 42 = .ok (.istore 5, 2) := by decide +kernel
theorem dX9_fits_44 : decode cX9_fits 44 = .ok (.bipush (-5), 2) := by decide +kernel
theorem dX9_fits_46 : decode cX9_fits 46 = .ok (.istore 6, 2) := by decide +kernel
theorem dX9_fits_48 : decode cX9_fits 48 = .ok (.iconst 5, 1) := by decide +kernel
theorem dX9_fits_49 : decode cX9_fits 49 = .ok (.istore 7, 2) := by decide +kernel
theorem dX9_fits_51 : decode cX9_fits 51 = .ok (.iload 7, 2) := by decide +kernel
theorem dX9_fits_53 : decode cX9_fits 53 = .ok (.ifCond .lt 34, 3) := by decide +kernel
theorem dX9_fits_56 : decode cX9_fits 56 = .ok (.aload_n 0, 1) := by decide +kernel
theorem dX9_fits_57 : decode cX9_fits 57 = .ok (.getfield 21, 3) := by decide +kernel
theorem dX9_fits_60 : decode cX9_fits 60 = .ok (.iload_n 1, 1) := by decide +kernel
theorem dX9_fits_61 : decode cX9_fits 61 = .ok (.iload 7, 2) := by decide +kernel
theorem dX9_fits_63 : decode cX9_fits 63 = .ok (.iastore, 1) := by decide +kernel
theorem dX9_fits_64 : decode cX9_fits 64 = .ok (.aload_n 0, 1) := by decide +kernel
theorem dX9_fits_65 : decode cX9_fits 65 = .ok (.invokevirtual 271, 3) := by decide +kernel
theorem dX9_fits_68 : decode cX9_fits 68 = .ok (.ifCond .ne 6, 3) := by decide +kernel
theorem dX9_fits_71 : decode cX9_fits 71 = .ok (.goto 10, 3) := by decide +kernel
theorem dX9_fits_74 : decode cX9_fits 74 = .ok (.iinc 5 1, 3) := by decide +kernel
theorem dX9_fits_77 : decode cX9_fits 77 = .ok (.iload 7, 2) := by decide +kernel
theorem dX9_fits_79 : decode cX9_fits 79 = .ok (.istore 6, 2) := by decide +kernel
theorem dX9_fits_81 : decode cX9_fits 81 = .ok (.iinc 7 (-1), 3) := by decide +kernel
theorem dX9_fits_84 : decode cX9_fits 84 = .ok (.goto (-33), 3) := by decide +kernel
theorem dX9_fits_87 : decode cX9_fits 87 = .ok (.aload_n 0, 1) := by decide +kernel
theorem dX9_fits_88 : decode cX9_fits 88 = .ok (.getfield 18, 3) := by decide +kernel
theorem dX9_fits_91 : decode cX9_fits 91 = .ok (.iload_n 1, 1) := by decide +kernel
theorem dX9_fits_92 : decode cX9_fits 92 = .ok (.iload_n 3, 1) := by decide +kernel
theorem dX9_fits_93 : decode cX9_fits 93 = .ok (.iastore, 1) := by decide +kernel
theorem dX9_fits_94 : decode cX9_fits 94 = .ok (.aload_n 0, 1) := by decide +kernel
theorem dX9_fits_95 : decode cX9_fits 95 = .ok (.getfield 21, 3) := by decide +kernel
theorem dX9_fits_98 : decode cX9_fits 98 = .ok (.iload_n 1, 1) := by decide +kernel
theorem dX9_fits_99 : decode cX9_fits 99 = .ok (.iload 4, 2) := by decide +kernel
theorem dX9_fits_101 : decode cX9_fits 101 = .ok (.iastore, 1) := by decide +kernel
theorem dX9_fits_102 : decode cX9_fits 102 = .ok (.iload_n 2, 1) := by decide +kernel
theorem dX9_fits_103 : decode cX9_fits 103 = .ok (.ifCond .ne 8, 3) := by decide +kernel
theorem dX9_fits_106 : decode cX9_fits 106 = .ok (.iload 5, 2) := by decide +kernel
theorem dX9_fits_108 : decode cX9_fits 108 = .ok (.goto 5, 3) := by decide +kernel
theorem dX9_fits_111 : decode cX9_fits 111 = .ok (.iload 6, 2) := by decide +kernel
theorem dX9_fits_113 : decode cX9_fits 113 = .ok (.ireturn, 1) := by decide +kernel
theorem dX9_mean_0 : decode cX9_mean 0 = .ok (.aload_n 0, 1) := by decide +kernel
theorem dX9_mean_1 : decode cX9_mean 1 = .ok (.getfield 97, 3) := by decide +kernel
theorem dX9_mean_4 : decode cX9_mean 4 = .ok (.ifCond .eq 20, 3) := by decide +kernel
theorem dX9_mean_7 : decode cX9_mean 7 = .ok (.iload_n 1, 1) := by decide +kernel
theorem dX9_mean_8 : decode cX9_mean 8 = .ok (.iconst 0, 1) := by decide +kernel
theorem dX9_mean_9 : decode cX9_mean 9 = .ok (.iconst 1, 1) := by decide +kernel
theorem dX9_mean_10 : decode cX9_mean 10 = .ok (.invokestatic 93, 3) := by decide +kernel
theorem dX9_mean_13 : decode cX9_mean 13 = .ok (.ifCond .eq 11, 3) := by decide +kernel
theorem dX9_mean_16 : decode cX9_mean 16 = .ok (.aload_n 0, 1) := by decide +kernel
theorem dX9_mean_17 : decode cX9_mean 17 = .ok (.iconst 1, 1) := by decide +kernel
theorem dX9_mean_18 : decode cX9_mean 18 = .ok (.invokevirtual 259, 3) := by decide +kernel
theorem dX9_mean_21 : decode cX9_mean 21 = .ok (.ifCond .ne 7, 3) := by decide +kernel
theorem dX9_mean_24 : decode cX9_mean 24 = .ok (.ldc2_w 241, 3) := by decide +kernel
theorem dX9_mean_27 : decode cX9_mean 27 = .ok (.lreturn, 1) := by decide +kernel
theorem dX9_mean_28 : decode cX9_mean 28 = .ok (.lconst 0, 1) := by decide +kernel
theorem dX9_mean_29 : decode cX9_mean 29 = .ok (.lstore_n 2, 1) := by decide +kernel
theorem dX9_mean_30 : decode cX9_mean 30 = .ok (.iconst 0, 1) := by decide +kernel
theorem dX9_mean_31 : decode cX9_mean 31 = .ok (.istore 4, 2) := by decide +kernel
theorem dX9_mean_33 : decode cX9_mean 33 = .ok (.iload 4, 2) := by decide +kernel
theorem dX9_mean_35 : decode cX9_mean 35 = .ok (.aload_n 0, 1) := by decide +kernel
theorem dX9_mean_36 : decode cX9_mean 36 = .ok (.getfield 209, 3) := by decide +kernel
theorem dX9_mean_39 : decode cX9_mean 39 = .ok (.if_icmp .ge 23, 3) := by decide +kernel
theorem dX9_mean_42 : decode cX9_mean 42 = .ok (.lload_n 2, 1) := by decide +kernel
theorem dX9_mean_43 : decode cX9_mean 43 = .ok (.aload_n 0, 1) := by decide +kernel
theorem dX9_mean_44 : decode cX9_mean 44 = .ok (.getfield 72, 3) := by decide +kernel
theorem dX9_mean_47 : decode cX9_mean 47 = .ok (.iload 4, 2) := by decide +kernel
theorem dX9_mean_49 : decode cX9_mean 49 = .ok (.iaload, 1) := by decide +kernel
theorem dX9_mean_50 : decode cX9_mean 50 = .ok (.invokestatic 212, 3) := by decide +kernel
theorem dX9_mean_53 : decode cX9_mean 53 = .ok (.i2l, 1) := by decide +kernel
theorem dX9_mean_54 : decode cX9_mean 54 = .ok (.ladd, 1) := by decide +kernel
theorem dX9_mean_55 : decode cX9_mean 55 = .ok (.lstore_n 2, 1) := by decide +kernel
theorem dX9_mean_56 : decode cX9_mean 56 = .ok (.iinc 4 1, 3) := by decide +kernel
theorem dX9_mean_59 : decode cX9_mean 59 = .ok (.goto (-26), 3) := by decide +kernel
theorem dX9_mean_62 : decode cX9_mean 62 = .ok (.lload_n 2, 1) := by decide +kernel
theorem dX9_mean_63 : decode cX9_mean 63 = .ok (.aload_n 0, 1) := by decide +kernel
theorem dX9_mean_64 : decode cX9_mean 64 = .ok (.getfield 209, 3) := by decide +kernel
theorem dX9_mean_67 : decode cX9_mean 67 = .ok (.i2l, 1) := by decide +kernel
theorem dX9_mean_68 : decode cX9_mean 68 = .ok (.iload_n 1, 1) := by decide +kernel
theorem dX9_mean_69 : decode cX9_mean 69 = .ok (.invokestatic 249, 3) := by decide +kernel
theorem dX9_mean_72 : decode cX9_mean 72 = .ok (.lreturn, 1) := by decide +kernel
theorem dX9_event_0 : decode cX9_event 0 = .ok (.iload_n 1, 1) := by decide +kernel
theorem dX9_event_1 : decode cX9_event 1 = .ok (.iconst (-1), 1) := by decide +kernel
theorem dX9_event_2 : decode cX9_event 2 = .ok (.if_icmp .ne 10, 3) := by decide +kernel
theorem dX9_event_5 : decode cX9_event 5 = .ok (.aload_n 0, 1) := by decide +kernel
theorem dX9_event_6 : decode cX9_event 6 = .ok (.iconst 0, 1) := by decide +kernel
theorem dX9_event_7 : decode cX9_event 7 = .ok (.putfield 275, 3) := by decide +kernel
theorem dX9_event_10 : decode cX9_event 10 = .ok (.iconst 0, 1) := by decide +kernel
theorem dX9_event_11 : decode cX9_event 11 = .ok (.ireturn, 1) := by decide +kernel
theorem dX9_event_12 : decode cX9_event 12 = .ok (.iload_n 1, 1) := by decide +kernel
theorem dX9_event_13 : decode cX9_event 13 = .ok (.iconst 0, 1) := by decide +kernel
theorem dX9_event_14 : decode cX9_event 14 = .ok (.iconst 3, 1) := by decide +kernel
theorem dX9_event_15 : decode cX9_event 15 = .ok (.invokestatic 93, 3) := by decide +kernel
theorem dX9_event_18 : decode cX9_event 18 = .ok (.ifCond .eq 27, 3) := by decide +kernel
theorem dX9_event_21 : decode cX9_event 21 = .ok (.iload_n 1, 1) := by decide +kernel
theorem dX9_event_22 : decode cX9_event 22 = .ok (.iconst 2, 1) := by decide +kernel
theorem dX9_event_23 : decode cX9_event 23 = .ok (.if_icmp .ge 14, 3) := by decide +kernel
theorem dX9_event_26 : decode cX9_event 26 = .ok (.aload_n 0, 1) := by decide +kernel
theorem dX9_event_27 : decode cX9_event 27 = .ok (.iload_n 2, 1) := by decide +kernel
theorem dX9_event_28 : decode cX9_event 28 = .ok (.invokevirtual 111, 3) := by decide +kernel
theorem dX9_event_31 : decode cX9_event 31 = .ok (.ifCond .ne 16, 3) := by decide +kernel
theorem dX9_event_34 : decode cX9_event 34 = .ok (.goto 11, 3) := by decide +kernel
theorem dX9_event_37 : decode cX9_event 37 = .ok (.aload_n 0, 1) := by decide +kernel
theorem dX9_event_38 : decode cX9_event 38 = .ok (.iload_n 2, 1) := by decide +kernel
theorem dX9_event_39 : decode cX9_event 39 = .ok (.invokevirtual 108, 3) := by decide +kernel
theorem dX9_event_42 : decode cX9_event 42 = .ok (.ifCond .ne 5, 3) := by decide +kernel
theorem dX9_event_45 : decode cX9_event 45 = .ok (.iconst (-1), 1) := by decide +kernel
theorem dX9_event_46 : decode cX9_event 46 = .ok (.ireturn, 1) := by decide +kernel
theorem dX9_event_47 : decode cX9_event 47 = .ok (.aload_n 0, 1) := by decide +kernel
theorem dX9_event_48 : decode cX9_event 48 = .ok (.getfield 275, 3) := by decide +kernel
theorem dX9_event_51 : decode cX9_event 51 = .ok (.bipush 8, 2) := by decide +kernel
theorem dX9_event_53 : decode cX9_event 53 = .ok (.if_icmp .ne 6, 3) := by decide +kernel
theorem dX9_event_56 : decode cX9_event 56 = .ok (.bipush (-4), 2) := by decide +kernel
theorem dX9_event_58 : decode cX9_event 58 = .ok (.ireturn, 1) := by decide +kernel
theorem dX9_event_59 : decode cX9_event 59 = .ok (.aload_n 0, 1) := by decide +kernel
theorem dX9_event_60 : decode cX9_event 60 = .ok (.getfield 46, 3) := by decide +kernel
theorem dX9_event_63 : decode cX9_event 63 = .ok (.iconst 2, 1) := by decide +kernel
theorem dX9_event_64 : decode cX9_event 64 = .ok (.aload_n 0, 1) := by decide +kernel
theorem dX9_event_65 : decode cX9_event 65 = .ok (.getfield 275, 3) := by decide +kernel
theorem dX9_event_68 : decode cX9_event 68 = .ok (.imul, 1) := by decide +kernel
theorem dX9_event_69 : decode cX9_event 69 = .ok (.iload_n 1, 1) := by decide +kernel
theorem dX9_event_70 : decode cX9_event 70 = .ok (.iastore, 1) := by decide +kernel
theorem dX9_event_71 : decode cX9_event 71 = .ok (.aload_n 0, 1) := by decide +kernel
theorem dX9_event_72 : decode cX9_event 72 = .ok (.getfield 46, 3) := by decide +kernel
theorem dX9_event_75 : decode cX9_event 75 = .ok (.iconst 2, 1) := by decide +kernel
theorem dX9_event_76 : decode cX9_event 76 = .ok (.aload_n 0, 1) := by decide +kernel
theorem dX9_event_77 : decode cX9_event 77 = .ok (.getfield 275, 3) := by decide +kernel
theorem dX9_event_80 : decode cX9_event 80 = .ok (.imul, 1) := by decide +kernel
theorem dX9_event_81 : decode cX9_event 81 = .ok (.iconst 1, 1) := by decide +kernel
theorem dX9_event_82 : decode cX9_event 82 = .ok (.iadd, 1) := by decide +kernel
theorem dX9_event_83 : decode cX9_event 83 = .ok (.iload_n 2, 1) := by decide +kernel
theorem dX9_event_84 : decode cX9_event 84 = .ok (.iastore, 1) := by decide +kernel
theorem dX9_event_85 : decode cX9_event 85 = .ok (.aload_n 0, 1) := by decide +kernel
theorem dX9_event_86 : decode cX9_event 86 = .ok (.dup, 1) := by decide +kernel
theorem dX9_event_87 : decode cX9_event 87 = .ok (.getfield 275, 3) := by decide +kernel
theorem dX9_event_90 : decode cX9_event 90 = .ok (.iconst 1, 1) := by decide +kernel
theorem dX9_event_91 : decode cX9_event 91 = .ok (.iadd, 1) := by decide +kernel
theorem dX9_event_92 : decode cX9_event 92 = .ok (.putfield 275, 3) := by decide +kernel
theorem dX9_event_95 : decode cX9_event 95 = .ok (.aload_n 0, 1) := by decide +kernel
theorem dX9_event_96 : decode cX9_event 96 = .ok (.getfield 275, 3) := by decide +kernel
theorem dX9_event_99 : decode cX9_event 99 = .ok (.ireturn, 1) := by decide +kernel
theorem dX9_after_0 : decode cX9_after 0 = .ok (.iload_n 1, 1) := by decide +kernel
theorem dX9_after_1 : decode cX9_after 1 = .ok (.iconst 0, 1) := by decide +kernel
theorem dX9_after_2 : decode cX9_after 2 = .ok (.iconst 3, 1) := by decide +kernel
theorem dX9_after_3 : decode cX9_after 3 = .ok (.invokestatic 93, 3) := by decide +kernel
theorem dX9_after_6 : decode cX9_after 6 = .ok (.ifCond .ne 5, 3) := by decide +kernel
theorem dX9_after_9 : decode cX9_after 9 = .ok (.iconst (-1), 1) := by decide +kernel
theorem dX9_after_10 : decode cX9_after 10 = .ok (.ireturn, 1) := by decide +kernel
theorem dX9_after_11 : decode cX9_after 11 = .ok (.aload_n 0, 1) := by decide +kernel
theorem dX9_after_12 : decode cX9_after 12 = .ok (.getfield 97, 3) := by decide +kernel
theorem dX9_after_15 : decode cX9_after 15 = .ok (.ifCond .ne 6, 3) := by decide +kernel
theorem dX9_after_18 : decode cX9_after 18 = .ok (.bipush (-3), 2) := by decide +kernel
theorem dX9_after_20 : decode cX9_after 20 = .ok (.ireturn, 1) := by decide +kernel
theorem dX9_after_21 : decode cX9_after 21 = .ok (.iconst 0, 1) := by decide +kernel
theorem dX9_after_22 : decode cX9_after 22 = .ok (.istore_n 2, 1) := by decide +kernel
theorem dX9_after_23 : decode cX9_after 23 = .ok (.iload_n 2, 1) := by decide +kernel
theorem dX9_after_24 : decode cX9_after 24 = .ok (.bipush 6, 2) := by decide +kernel
theorem dX9_after_26 : decode cX9_after 26 = .ok (.if_icmp .ge 21, 3) := by decide +kernel
theorem dX9_after_29 : decode cX9_after 29 = .ok (.aload_n 0, 1) := by decide +kernel
theorem dX9_after_30 : decode cX9_after 30 = .ok (.getfield 75, 3) := by decide +kernel
theorem dX9_after_33 : decode cX9_after 33 = .ok (.iload_n 2, 1) := by decide +kernel
theorem dX9_after_34 : decode cX9_after 34 = .ok (.aload_n 0, 1) := by decide +kernel
theorem dX9_after_35 : decode cX9_after 35 = .ok (.getfield 9, 3) := by decide +kernel
theorem dX9_after_38 : decode cX9_after 38 = .ok (.iload_n 2, 1) := by decide +kernel
theorem dX9_after_39 : decode cX9_after 39 = .ok (.iaload, 1) := by decide +kernel
theorem dX9_after_40 : decode cX9_after 40 = .ok (.iastore, 1) := by decide +kernel
theorem dX9_after_41 : decode cX9_after 41 = .ok (.iinc 2 1, 3) := by decide +kernel
theorem dX9_after_44 : decode cX9_after 44 = .ok (.goto (-21), 3) := by decide +kernel
theorem dX9_after_47 : decode cX9_after 47 = .ok (.iconst 0, 1) := by decide +kernel
theorem dX9_after_48 : decode cX9_after 48 = .ok (.istore_n 2, 1) := by decide +kernel
theorem dX9_after_49 : decode cX9_after 49 = .ok (.iload_n 2, 1) := by decide +kernel
theorem dX9_after_50 : decode cX9_after 50 = .ok (.bipush 8, 2) := by decide +kernel
theorem dX9_after_52 : decode cX9_after 52 = .ok (.if_icmp .ge 24, 3) := by decide +kernel
theorem dX9_after_55 : decode cX9_after 55 = .ok (.aload_n 0, 1) := by decide +kernel
theorem dX9_after_56 : decode cX9_after 56 = .ok (.getfield 75, 3) := by decide +kernel
theorem dX9_after_59 : decode cX9_after 59 = .ok (.bipush 6, 2) := by decide +kernel
theorem dX9_after_61 : decode cX9_after 61 = .ok (.iload_n 2, 1) := by decide +kernel
theorem dX9_after_62 : decode cX9_after 62 = .ok (.iadd, 1) := by decide +kernel
theorem dX9_after_63 : decode cX9_after 63 = .ok (.aload_n 0, 1) := by decide +kernel
theorem dX9_after_64 : decode cX9_after 64 = .ok (.getfield 18, 3) := by decide +kernel
theorem dX9_after_67 : decode cX9_after 67 = .ok (.iload_n 2, 1) := by decide +kernel
theorem dX9_after_68 : decode cX9_after 68 = .ok (.iaload, 1) := by decide +kernel
theorem dX9_after_69 : decode cX9_after 69 = .ok (.iastore, 1) := by decide +kernel
theorem dX9_after_70 : decode cX9_after 70 = .ok (.iinc 2 1, 3) := by decide +kernel
theorem dX9_after_73 : decode cX9_after 73 = .ok (.goto (-24), 3) := by decide +kernel
theorem dX9_after_76 : decode cX9_after 76 = .ok (.iconst 0, 1) := by decide +kernel
theorem dX9_after_77 : decode cX9_after 77 = .ok (.istore_n 2, 1) := by decide +kernel
theorem dX9_after_78 : decode cX9_after 78 = .ok (.iload_n 2, 1) := by decide +kernel
theorem dX9_after_79 : decode cX9_after 79 = .ok (.aload_n 0, 1) := by decide +kernel
theorem dX9_after_80 : decode cX9_after 80 = .ok (.getfield 275, 3) := by decide +kernel
theorem dX9_after_83 : decode cX9_after 83 = .ok (.if_icmp .ge 68, 3) := by decide +kernel
theorem dX9_after_86 : decode cX9_after 86 = .ok (.aload_n 0, 1) := by decide +kernel
theorem dX9_after_87 : decode cX9_after 87 = .ok (.getfield 46, 3) := by decide +kernel
theorem dX9_after_90 : decode cX9_after 90 = .ok (.iconst 2, 1) := by decide +kernel
theorem dX9_after_91 : decode cX9_after 91 = .ok (.iload_n 2, 1) := by decide +kernel
theorem dX9_after_92 : decode cX9_after 92 = .ok (.imul, 1) := by decide +kernel
theorem dX9_after_93 : decode cX9_after 93 = .ok (.iconst 1, 1) := by decide +kernel
theorem dX9_after_94 : decode cX9_after 94 = .ok (.iadd, 1) := by decide +kernel
theorem dX9_after_95 : decode cX9_after 95 = .ok (.iaload, 1) := by decide +kernel
theorem dX9_after_96 : decode cX9_after 96 = .ok (.istore_n 3, 1) := by decide +kernel
theorem dX9_after_97 : decode cX9_after 97 = .ok (.aload_n 0, 1) := by decide +kernel
theorem dX9_after_98 : decode cX9_after 98 = .ok (.getfield 46, 3) := by decide +kernel
theorem dX9_after_101 : decode cX9_after 101 = .ok (.iconst 2, 1) := by decide +kernel
theorem dX9_after_102 : decode cX9_after 102 = .ok (.iload_n 2, 1) := by decide +kernel
theorem dX9_after_103 : decode cX9_after 103 = .ok (.imul, 1) := by decide +kernel
theorem dX9_after_104 : decode cX9_after 104 = .ok (.iaload, 1) := by decide +kernel
theorem dX9_after_105 : decode cX9_after 105 = .ok (.iconst 2, 1) := by decide +kernel
theorem dX9_after_106 : decode cX9_after 106 = .ok (.if_icmp .ge 23, 3) := by decide +kernel
theorem dX9_after_109 : decode cX9_after 109 = .ok (.aload_n 0, 1) := by decide +kernel
theorem dX9_after_110 : decode cX9_after 110 = .ok (.getfield 9, 3) := by decide +kernel
theorem dX9_after_113 : decode cX9_after 113 = .ok (.iload_n 3, 1) := by decide +kernel
theorem dX9_after_114 : decode cX9_after 114 = .ok (.bipush 100, 2) := by decide +kernel
theorem dX9_after_116 : decode cX9_after 116 = .ok (.aload_n 0, 1) := by decide +kernel
end
section
theorem dX9_after_117 : decode cX9_after 117 = .ok (.getfield 46, 3) := by decide +kernel
theorem dX9_after_120 : decode cX9_after 120 = .ok (.iconst 2, 1) := by decide +kernel
theorem dX9_after_121 : decode cX9_after 121 = .ok (.iload_n 2, 1) := by decide +kernel
theorem dX9_after_122 : decode cX9_after 122 = .ok (.imul, 1) := by decide +kernel
theorem dX9_after_123 : decode cX9_after 123 = .ok (.iaload, 1) := by decide +kernel
theorem dX9_after_124 : decode cX9_after 124 = .ok (.imul, 1) := by decide +kernel
theorem dX9_after_125 : decode cX9_after 125 = .ok (.iastore, 1) := by decide +kernel
theorem dX9_after_126 : decode cX9_after 126 = .ok (.goto 19, 3) := by decide +kernel
theorem dX9_after_129 : decode cX9_after 129 = .ok (.aload_n 0, 1) := by decide +kernel
theorem dX9_after_130 : decode cX9_after 130 = .ok (.getfield 18, 3) := by decide +kernel
theorem dX9_after_133 : decode cX9_after 133 = .ok (.iload_n 3, 1) := by decide +kernel
theorem dX9_after_134 : decode cX9_after 134 = .ok (.aload_n 0, 1) := by decide +kernel
theorem dX9_after_135 : decode cX9_after 135 = .ok (.getfield 46, 3) := by decide +kernel
theorem dX9_after_138 : decode cX9_after 138 = .ok (.iconst 2, 1) := by decide +kernel
theorem dX9_after_139 : decode cX9_after 139 = .ok (.iload_n 2, 1) := by decide +kernel
theorem dX9_after_140 : decode cX9_after 140 = .ok (.imul, 1) := by decide +kernel
theorem dX9_after_141 : decode cX9_after 141 = .ok (.iaload, 1) := by decide +kernel
theorem dX9_after_142 : decode cX9_after 142 = .ok (.iconst 2, 1) := by decide +kernel
theorem dX9_after_143 : decode cX9_after 143 = .ok (.isub, 1) := by decide +kernel
theorem dX9_after_144 : decode cX9_after 144 = .ok (.iastore, 1) := by decide +kernel
theorem dX9_after_145 : decode cX9_after 145 = .ok (.iinc 2 1, 3) := by decide +kernel
theorem dX9_after_148 : decode cX9_after 148 = .ok (.goto (-70), 3) := by decide +kernel
theorem dX9_after_151 : decode cX9_after 151 = .ok (.iload_n 1, 1) := by decide +kernel
theorem dX9_after_152 : decode cX9_after 152 = .ok (.ifCond .ne 11, 3) := by decide +kernel
theorem dX9_after_155 : decode cX9_after 155 = .ok (.aload_n 0, 1) := by decide +kernel
theorem dX9_after_156 : decode cX9_after 156 = .ok (.iconst 1, 1) := by decide +kernel
theorem dX9_after_157 : decode cX9_after 157 = .ok (.invokevirtual 259, 3) := by decide +kernel
theorem dX9_after_160 : decode cX9_after 160 = .ok (.goto 40, 3) := by decide +kernel
theorem dX9_after_163 : decode cX9_after 163 = .ok (.iload_n 1, 1) := by decide +kernel
theorem dX9_after_164 : decode cX9_after 164 = .ok (.iconst 1, 1) := by decide +kernel
theorem dX9_after_165 : decode cX9_after 165 = .ok (.if_icmp .ne 10, 3) := by decide +kernel
theorem dX9_after_168 : decode cX9_after 168 = .ok (.aload_n 0, 1) := by decide +kernel
theorem dX9_after_169 : decode cX9_after 169 = .ok (.invokevirtual 256, 3) := by decide +kernel
theorem dX9_after_172 : decode cX9_after 172 = .ok (.goto 28, 3) := by decide +kernel
theorem dX9_after_175 : decode cX9_after 175 = .ok (.iload_n 1, 1) := by decide +kernel
theorem dX9_after_176 : decode cX9_after 176 = .ok (.iconst 2, 1) := by decide +kernel
theorem dX9_after_177 : decode cX9_after 177 = .ok (.if_icmp .ne 19, 3) := by decide +kernel
theorem dX9_after_180 : decode cX9_after 180 = .ok (.aload_n 0, 1) := by decide +kernel
theorem dX9_after_181 : decode cX9_after 181 = .ok (.iconst 0, 1) := by decide +kernel
theorem dX9_after_182 : decode cX9_after 182 = .ok (.invokevirtual 199, 3) := by decide +kernel
theorem dX9_after_185 : decode cX9_after 185 = .ok (.ifCond .eq 7, 3) := by decide +kernel
theorem dX9_after_188 : decode cX9_after 188 = .ok (.iconst 1, 1) := by decide +kernel
theorem dX9_after_189 : decode cX9_after 189 = .ok (.goto 11, 3) := by decide +kernel
theorem dX9_after_192 : decode cX9_after 192 = .ok (.iconst 0, 1) := by decide +kernel
theorem dX9_after_193 : decode cX9_after 193 = .ok (.goto 7, 3) := by decide +kernel
theorem dX9_after_196 : decode cX9_after 196 = .ok (.aload_n 0, 1) := by decide +kernel
theorem dX9_after_197 : decode cX9_after 197 = .ok (.invokevirtual 262, 3) := by decide +kernel
theorem dX9_after_200 : decode cX9_after 200 = .ok (.istore_n 2, 1) := by decide +kernel
theorem dX9_after_201 : decode cX9_after 201 = .ok (.iconst 0, 1) := by decide +kernel
theorem dX9_after_202 : decode cX9_after 202 = .ok (.istore_n 3, 1) := by decide +kernel
theorem dX9_after_203 : decode cX9_after 203 = .ok (.iload_n 3, 1) := by decide +kernel
theorem dX9_after_204 : decode cX9_after 204 = .ok (.bipush 6, 2) := by decide +kernel
theorem dX9_after_206 : decode cX9_after 206 = .ok (.if_icmp .ge 21, 3) := by decide +kernel
theorem dX9_after_209 : decode cX9_after 209 = .ok (.aload_n 0, 1) := by decide +kernel
theorem dX9_after_210 : decode cX9_after 210 = .ok (.getfield 9, 3) := by decide +kernel
theorem dX9_after_213 : decode cX9_after 213 = .ok (.iload_n 3, 1) := by decide +kernel
theorem dX9_after_214 : decode cX9_after 214 = .ok (.aload_n 0, 1) := by decide +kernel
theorem dX9_after_215 : decode cX9_after 215 = .ok (.getfield 75, 3) := by decide +kernel
theorem dX9_after_218 : decode cX9_after 218 = .ok (.iload_n 3, 1) := by decide +kernel
theorem dX9_after_219 : decode cX9_after 219 = .ok (.iaload, 1) := by decide +kernel
theorem dX9_after_220 : decode cX9_after 220 = .ok (.iastore, 1) := by decide +kernel
theorem dX9_after_221 : decode cX9_after 221 = .ok (.iinc 3 1, 3) := by decide +kernel
theorem dX9_after_224 : decode cX9_after 224 = .ok (.goto (-21), 3) := by decide +kernel
theorem dX9_after_227 : decode cX9_after 227 = .ok (.iconst 0, 1) := by decide +kernel
theorem dX9_after_228 : decode cX9_after 228 = .ok (.istore_n 3, 1) := by decide +kernel
theorem dX9_after_229 : decode cX9_after 229 = .ok (.iload_n 3, 1) := by decide +kernel
theorem dX9_after_230 : decode cX9_after 230 = .ok (.bipush 8, 2) := by decide +kernel
theorem dX9_after_232 : decode cX9_after 232 = .ok (.if_icmp .ge 24, 3) := by decide +kernel
theorem dX9_after_235 : decode cX9_after 235 = .ok (.aload_n 0, 1) := by decide +kernel
theorem dX9_after_236 : decode cX9_after 236 = .ok (.getfield 18, 3) := by decide +kernel
theorem dX9_after_239 : decode cX9_after 239 = .ok (.iload_n 3, 1) := by decide +kernel
theorem dX9_after_240 : decode cX9_after 240 = .ok (.aload_n 0, 1) := by decide +kernel
theorem dX9_after_241 : decode cX9_after 241 = .ok (.getfield 75, 3) := by decide +kernel
theorem dX9_after_244 : decode cX9_after 244 = .ok (.bipush 6, 2) := by decide +kernel
theorem dX9_after_246 : decode cX9_after 246 = .ok (.iload_n 3, 1) := by decide +kernel
theorem dX9_after_247 : decode cX9_after 247 = .ok (.iadd, 1) := by decide +kernel
theorem dX9_after_248 : decode cX9_after 248 = .ok (.iaload, 1) := by decide +kernel
theorem dX9_after_249 : decode cX9_after 249 = .ok (.iastore, 1) := by decide +kernel
theorem dX9_after_250 : decode cX9_after 250 = .ok (.iinc 3 1, 3) := by decide +kernel
theorem dX9_after_253 : decode cX9_after 253 = .ok (.goto (-24), 3) := by decide +kernel
theorem dX9_after_256 : decode cX9_after 256 = .ok (.iload_n 2, 1) := by decide +kernel
theorem dX9_after_257 : decode cX9_after 257 = .ok (.ireturn, 1) := by decide +kernel
theorem dX9_book_0 : decode cX9_book 0 = .ok (.iload_n 1, 1) := by decide +kernel
theorem dX9_book_1 : decode cX9_book 1 = .ok (.iconst (-1), 1) := by decide +kernel
theorem dX9_book_2 : decode cX9_book 2 = .ok (.if_icmp .ne 10, 3) := by decide +kernel
theorem dX9_book_5 : decode cX9_book 5 = .ok (.aload_n 0, 1) := by decide +kernel
theorem dX9_book_6 : decode cX9_book 6 = .ok (.iconst 0, 1) := by decide +kernel
theorem dX9_book_7 : decode cX9_book 7 = .ok (.putfield 278, 3) := by decide +kernel
theorem dX9_book_10 : decode cX9_book 10 = .ok (.iconst 0, 1) := by decide +kernel
theorem dX9_book_11 : decode cX9_book 11 = .ok (.ireturn, 1) := by decide +kernel
theorem dX9_book_12 : decode cX9_book 12 = .ok (.aload_n 0, 1) := by decide +kernel
theorem dX9_book_13 : decode cX9_book 13 = .ok (.iload_n 1, 1) := by decide +kernel
theorem dX9_book_14 : decode cX9_book 14 = .ok (.invokevirtual 118, 3) := by decide +kernel
theorem dX9_book_17 : decode cX9_book 17 = .ok (.ifCond .ne 6, 3) := by decide +kernel
theorem dX9_book_20 : decode cX9_book 20 = .ok (.bipush (-2), 2) := by decide +kernel
theorem dX9_book_22 : decode cX9_book 22 = .ok (.ireturn, 1) := by decide +kernel
theorem dX9_book_23 : decode cX9_book 23 = .ok (.aload_n 0, 1) := by decide +kernel
theorem dX9_book_24 : decode cX9_book 24 = .ok (.getfield 278, 3) := by decide +kernel
theorem dX9_book_27 : decode cX9_book 27 = .ok (.bipush 8, 2) := by decide +kernel
theorem dX9_book_29 : decode cX9_book 29 = .ok (.if_icmp .ne 6, 3) := by decide +kernel
theorem dX9_book_32 : decode cX9_book 32 = .ok (.bipush (-4), 2) := by decide +kernel
theorem dX9_book_34 : decode cX9_book 34 = .ok (.ireturn, 1) := by decide +kernel
theorem dX9_book_35 : decode cX9_book 35 = .ok (.aload_n 0, 1) := by decide +kernel
theorem dX9_book_36 : decode cX9_book 36 = .ok (.getfield 49, 3) := by decide +kernel
theorem dX9_book_39 : decode cX9_book 39 = .ok (.aload_n 0, 1) := by decide +kernel
theorem dX9_book_40 : decode cX9_book 40 = .ok (.dup, 1) := by decide +kernel
theorem dX9_book_41 : decode cX9_book 41 = .ok (.getfield 278, 3) := by decide +kernel
theorem dX9_book_44 : decode cX9_book 44 = .ok (.dup_x1, 1) := by decide +kernel
theorem dX9_book_45 : decode cX9_book 45 = .ok (.iconst 1, 1) := by decide +kernel
theorem dX9_book_46 : decode cX9_book 46 = .ok (.iadd, 1) := by decide +kernel
theorem dX9_book_47 : decode cX9_book 47 = .ok (.putfield 278, 3) := by decide +kernel
theorem dX9_book_50 : decode cX9_book 50 = .ok (.iload_n 1, 1) := by decide +kernel
theorem dX9_book_51 : decode cX9_book 51 = .ok (.iastore, 1) := by decide +kernel
theorem dX9_book_52 : decode cX9_book 52 = .ok (.aload_n 0, 1) := by decide +kernel
theorem dX9_book_53 : decode cX9_book 53 = .ok (.getfield 278, 3) := by decide +kernel
theorem dX9_book_56 : decode cX9_book 56 = .ok (.ireturn, 1) := by decide +kernel
theorem dX9_isTold_0 : decode cX9_isTold 0 = .ok (.iconst 0, 1) := by decide +kernel
theorem dX9_isTold_1 : decode cX9_isTold 1 = .ok (.istore_n 2, 1) := by decide +kernel
theorem dX9_isTold_2 : decode cX9_isTold 2 = .ok (.iload_n 2, 1) := by decide +kernel
theorem dX9_isTold_3 : decode cX9_isTold 3 = .ok (.aload_n 0, 1) := by decide +kernel
theorem dX9_isTold_4 : decode cX9_isTold 4 = .ok (.getfield 209, 3) := by decide +kernel
theorem dX9_isTold_7 : decode cX9_isTold 7 = .ok (.if_icmp .ge 21, 3) := by decide +kernel
theorem dX9_isTold_10 : decode cX9_isTold 10 = .ok (.aload_n 0, 1) := by decide +kernel
theorem dX9_isTold_11 : decode cX9_isTold 11 = .ok (.getfield 72, 3) := by decide +kernel
theorem dX9_isTold_14 : decode cX9_isTold 14 = .ok (.iload_n 2, 1) := by decide +kernel
theorem dX9_isTold_15 : decode cX9_isTold 15 = .ok (.iaload, 1) := by decide +kernel
theorem dX9_isTold_16 : decode cX9_isTold 16 = .ok (.iload_n 1, 1) := by decide +kernel
theorem dX9_isTold_17 : decode cX9_isTold 17 = .ok (.if_icmp .ne 5, 3) := by decide +kernel
theorem dX9_isTold_20 : decode cX9_isTold 20 = .ok (.iconst 1, 1) := by decide +kernel
theorem dX9_isTold_21 : decode cX9_isTold 21 = .ok (.ireturn, 1) := by decide +kernel
theorem dX9_isTold_22 : decode cX9_isTold 22 = .ok (.iinc 2 1, 3) := by decide +kernel
theorem dX9_isTold_25 : decode cX9_isTold 25 = .ok (.goto (-23), 3) := by decide +kernel
theorem dX9_isTold_28 : decode cX9_isTold 28 = .ok (.iconst 0, 1) := by decide +kernel
theorem dX9_isTold_29 : decode cX9_isTold 29 = .ok (.ireturn, 1) := by decide +kernel
theorem dX9_looked_0 : decode cX9_looked 0 = .ok (.aload_n 0, 1) := by decide +kernel
theorem dX9_looked_1 : decode cX9_looked 1 = .ok (.getfield 97, 3) := by decide +kernel
theorem dX9_looked_4 : decode cX9_looked 4 = .ok (.ifCond .ne 6, 3) := by decide +kernel
theorem dX9_looked_7 : decode cX9_looked 7 = .ok (.bipush (-3), 2) := by decide +kernel
theorem dX9_looked_9 : decode cX9_looked 9 = .ok (.ireturn, 1) := by decide +kernel
theorem dX9_looked_10 : decode cX9_looked 10 = .ok (.aload_n 0, 1) := by decide +kernel
theorem dX9_looked_11 : decode cX9_looked 11 = .ok (.iconst 1, 1) := by decide +kernel
theorem dX9_looked_12 : decode cX9_looked 12 = .ok (.invokevirtual 218, 3) := by decide +kernel
theorem dX9_looked_15 : decode cX9_looked 15 = .ok (.iconst 0, 1) := by decide +kernel
theorem dX9_looked_16 : decode cX9_looked 16 = .ok (.istore_n 1, 1) := by decide +kernel
theorem dX9_looked_17 : decode cX9_looked 17 = .ok (.iload_n 1, 1) := by decide +kernel
theorem dX9_looked_18 : decode cX9_looked 18 = .ok (.aload_n 0, 1) := by decide +kernel
theorem dX9_looked_19 : decode cX9_looked 19 = .ok (.getfield 278, 3) := by decide +kernel
theorem dX9_looked_22 : decode cX9_looked 22 = .ok (.if_icmp .ge 24, 3) := by decide +kernel
theorem dX9_looked_25 : decode cX9_looked 25 = .ok (.aload_n 0, 1) := by decide +kernel
theorem dX9_looked_26 : decode cX9_looked 26 = .ok (.aload_n 0, 1) := by decide +kernel
theorem dX9_looked_27 : decode cX9_looked 27 = .ok (.getfield 49, 3) := by decide +kernel
theorem dX9_looked_30 : decode cX9_looked 30 = .ok (.iload_n 1, 1) := by decide +kernel
theorem dX9_looked_31 : decode cX9_looked 31 = .ok (.iaload, 1) := by decide +kernel
theorem dX9_looked_32 : decode cX9_looked 32 = .ok (.invokevirtual 281, 3) := by decide +kernel
theorem dX9_looked_35 : decode cX9_looked 35 = .ok (.ifCond .ne 5, 3) := by decide +kernel
theorem dX9_looked_38 : decode cX9_looked 38 = .ok (.iload_n 1, 1) := by decide +kernel
theorem dX9_looked_39 : decode cX9_looked 39 = .ok (.ireturn, 1) := by decide +kernel
theorem dX9_looked_40 : decode cX9_looked 40 = .ok (.iinc 1 1, 3) := by decide +kernel
theorem dX9_looked_43 : decode cX9_looked 43 = .ok (.goto (-26), 3) := by decide +kernel
theorem dX9_looked_46 : decode cX9_looked 46 = .ok (.bipush (-5), 2) := by decide +kernel
theorem dX9_looked_48 : decode cX9_looked 48 = .ok (.ireturn, 1) := by decide +kernel
theorem dX9_judge_0 : decode cX9_judge 0 = .ok (.iload_n 1, 1) := by decide +kernel
theorem dX9_judge_1 : decode cX9_judge 1 = .ok (.invokestatic 284, 3) := by decide +kernel
theorem dX9_judge_4 : decode cX9_judge 4 = .ok (.ifCond .ne 5, 3) := by decide +kernel
theorem dX9_judge_7 : decode cX9_judge 7 = .ok (.iconst (-1), 1) := by decide +kernel
theorem dX9_judge_8 : decode cX9_judge 8 = .ok (.ireturn, 1) := by decide +kernel
theorem dX9_judge_9 : decode cX9_judge 9 = .ok (.aload_n 0, 1) := by decide +kernel
theorem dX9_judge_10 : decode cX9_judge 10 = .ok (.getfield 97, 3) := by decide +kernel
theorem dX9_judge_13 : decode cX9_judge 13 = .ok (.ifCond .ne 6, 3) := by decide +kernel
theorem dX9_judge_16 : decode cX9_judge 16 = .ok (.bipush (-3), 2) := by decide +kernel
theorem dX9_judge_18 : decode cX9_judge 18 = .ok (.ireturn, 1) := by decide +kernel
theorem dX9_judge_19 : decode cX9_judge 19 = .ok (.aload_n 0, 1) := by decide +kernel
theorem dX9_judge_20 : decode cX9_judge 20 = .ok (.getfield 81, 3) := by decide +kernel
theorem dX9_judge_23 : decode cX9_judge 23 = .ok (.iload_n 1, 1) := by decide +kernel
theorem dX9_judge_24 : decode cX9_judge 24 = .ok (.iaload, 1) := by decide +kernel
theorem dX9_judge_25 : decode cX9_judge 25 = .ok (.ifCond .le 6, 3) := by decide +kernel
theorem dX9_judge_28 : decode cX9_judge 28 = .ok (.bipush (-12), 2) := by decide +kernel
theorem dX9_judge_30 : decode cX9_judge 30 = .ok (.ireturn, 1) := by decide +kernel
theorem dX9_judge_31 : decode cX9_judge 31 = .ok (.aload_n 0, 1) := by decide +kernel
theorem dX9_judge_32 : decode cX9_judge 32 = .ok (.iconst 1, 1) := by decide +kernel
theorem dX9_judge_33 : decode cX9_judge 33 = .ok (.invokevirtual 218, 3) := by decide +kernel
theorem dX9_judge_36 : decode cX9_judge 36 = .ok (.iconst 0, 1) := by decide +kernel
theorem dX9_judge_37 : decode cX9_judge 37 = .ok (.istore_n 3, 1) := by decide +kernel
theorem dX9_judge_38 : decode cX9_judge 38 = .ok (.iload_n 3, 1) := by decide +kernel
theorem dX9_judge_39 : decode cX9_judge 39 = .ok (.aload_n 0, 1) := by decide +kernel
theorem dX9_judge_40 : decode cX9_judge 40 = .ok (.getfield 209, 3) := by decide +kernel
theorem dX9_judge_43 : decode cX9_judge 43 = .ok (.if_icmp .ge 70, 3) := by decide +kernel
theorem dX9_judge_46 : decode cX9_judge 46 = .ok (.aload_n 0, 1) := by decide +kernel
theorem dX9_judge_47 : decode cX9_judge 47 = .ok (.getfield 81, 3) := by decide +kernel
theorem dX9_judge_50 : decode cX9_judge 50 = .ok (.iload_n 1, 1) := by decide +kernel
theorem dX9_judge_51 : decode cX9_judge 51 = .ok (.iaload, 1) := by decide +kernel
theorem dX9_judge_52 : decode cX9_judge 52 = .ok (.iconst (-1), 1) := by decide +kernel
theorem dX9_judge_53 : decode cX9_judge 53 = .ok (.if_icmp .eq 23, 3) := by decide +kernel
theorem dX9_judge_56 : decode cX9_judge 56 = .ok (.iload_n 2, 1) := by decide +kernel
theorem dX9_judge_57 : decode cX9_judge 57 = .ok (.ifCond .lt 19, 3) := by decide +kernel
theorem dX9_judge_60 : decode cX9_judge 60 = .ok (.iload_n 2, 1) := by decide +kernel
theorem dX9_judge_61 : decode cX9_judge 61 = .ok (.i2l, 1) := by decide +kernel
theorem dX9_judge_62 : decode cX9_judge 62 = .ok (.iload_n 3, 1) := by decide +kernel
theorem dX9_judge_63 : decode cX9_judge 63 = .ok (.i2l, 1) := by decide +kernel
theorem dX9_judge_64 : decode cX9_judge 64 = .ok (.ladd, 1) := by decide +kernel
theorem dX9_judge_65 : decode cX9_judge 65 = .ok (.aload_n 0, 1) := by decide +kernel
theorem dX9_judge_66 : decode cX9_judge 66 = .ok (.getfield 84, 3) := by decide +kernel
theorem dX9_judge_69 : decode cX9_judge 69 = .ok (.iload_n 1, 1) := by decide +kernel
theorem dX9_judge_70 : decode cX9_judge 70 = .ok (.iaload, 1) := by decide +kernel
theorem dX9_judge_71 : decode cX9_judge 71 = .ok (.i2l, 1) := by decide +kernel
theorem dX9_judge_72 : decode cX9_judge 72 = .ok (.lcmp, 1) := by decide +kernel
theorem dX9_judge_73 : decode cX9_judge 73 = .ok (.ifCond .lt 8, 3) := by decide +kernel
theorem dX9_judge_76 : decode cX9_judge 76 = .ok (.bipush 100, 2) := by decide +kernel
theorem dX9_judge_78 : decode cX9_judge 78 = .ok (.iload_n 3, 1) := by decide +kernel
theorem dX9_judge_79 : decode cX9_judge 79 = .ok (.iadd, 1) := by decide +kernel
theorem dX9_judge_80 : decode cX9_judge 80 = .ok (.ireturn, 1) := by decide +kernel
theorem dX9_judge_81 : decode cX9_judge 81 = .ok (.aload_n 0, 1) := by decide +kernel
theorem dX9_judge_82 : decode cX9_judge 82 = .ok (.getfield 87, 3) := by decide +kernel
theorem dX9_judge_85 : decode cX9_judge 85 = .ok (.bipush 60, 2) := by decide +kernel
theorem dX9_judge_87 : decode cX9_judge 87 = .ok (.iload_n 1, 1) := by decide +kernel
theorem dX9_judge_88 : decode cX9_judge 88 = .ok (.imul, 1) := by decide +kernel
theorem dX9_judge_89 : decode cX9_judge 89 = .ok (.iload_n 2, 1) := by decide +kernel
theorem dX9_judge_90 : decode cX9_judge 90 = .ok (.iadd, 1) := by decide +kernel
theorem dX9_judge_91 : decode cX9_judge 91 = .ok (.iload_n 3, 1) := by decide +kernel
theorem dX9_judge_92 : decode cX9_judge 92 = .ok (.iadd, 1) := by decide +kernel
theorem dX9_judge_93 : decode cX9_judge 93 = .ok (.laload, 1) := by decide +kernel
theorem dX9_judge_94 : decode cX9_judge 94 = .ok (.aload_n 0, 1) := by decide +kernel
theorem dX9_judge_95 : decode cX9_judge 95 = .ok (.getfield 72, 3) := by decide +kernel
theorem dX9_judge_98 : decode cX9_judge 98 = .ok (.iload_n 3, 1) := by decide +kernel
theorem dX9_judge_99 : decode cX9_judge 99 = .ok (.iaload, 1) := by decide +kernel
theorem dX9_judge_100 : decode cX9_judge 100 = .ok (.i2l, 1) := by decide +kernel
theorem dX9_judge_101 : decode cX9_judge 101 = .ok (.lcmp, 1) := by decide +kernel
theorem dX9_judge_102 : decode cX9_judge 102 = .ok (.ifCond .eq 5, 3) := by decide +kernel
theorem dX9_judge_105 : decode cX9_judge 105 = .ok (.iload_n 3, 1) := by decide +kernel
theorem dX9_judge_106 : decode cX9_judge 106 = .ok (.ireturn, 1) := by decide +kernel
theorem dX9_judge_107 : decode cX9_judge 107 = .ok (.iinc 3 1, 3) := by decide +kernel
theorem dX9_judge_110 : decode cX9_judge 110 = .ok (.goto (-72), 3) := by decide +kernel
theorem dX9_judge_113 : decode cX9_judge 113 = .ok (.bipush (-5), 2) := by decide +kernel
theorem dX9_judge_115 : decode cX9_judge 115 = .ok (.ireturn, 1) := by decide +kernel
theorem dX9_image_0 : decode cX9_image 0 = .ok (.aload_n 0, 1) := by decide +kernel
theorem dX9_image_1 : decode cX9_image 1 = .ok (.iconst 1, 1) := by decide +kernel
theorem dX9_image_2 : decode cX9_image 2 = .ok (.putfield 287, 3) := by decide +kernel
theorem dX9_image_5 : decode cX9_image 5 = .ok (.iconst 0, 1) := by decide +kernel
theorem dX9_image_6 : decode cX9_image 6 = .ok (.istore_n 1, 1) := by decide +kernel
theorem dX9_image_7 : decode cX9_image 7 = .ok (.iload_n 1, 1) := by decide +kernel
theorem dX9_image_8 : decode cX9_image 8 = .ok (.bipush 6, 2) := by decide +kernel
theorem dX9_image_10 : decode cX9_image 10 = .ok (.if_icmp .ge 66, 3) := by decide +kernel
theorem dX9_image_13 : decode cX9_image 13 = .ok (.aload_n 0, 1) := by decide +kernel
theorem dX9_image_14 : decode cX9_image 14 = .ok (.getfield 78, 3) := by decide +kernel
theorem dX9_image_17 : decode cX9_image 17 = .ok (.iload_n 1, 1) := by decide +kernel
theorem dX9_image_18 : decode cX9_image 18 = .ok (.aload_n 0, 1) := by decide +kernel
theorem dX9_image_19 : decode cX9_image 19 = .ok (.getfield 9, 3) := by decide +kernel
theorem dX9_image_22 : decode cX9_image 22 = .ok (.iload_n 1, 1) := by decide +kernel
theorem dX9_image_23 : decode cX9_image 23 = .ok (.iaload, 1) := by decide +kernel
theorem dX9_image_24 : decode cX9_image 24 = .ok (.iastore, 1) := by decide +kernel
theorem dX9_image_25 : decode cX9_image 25 = .ok (.aload_n 0, 1) := by decide +kernel
theorem dX9_image_26 : decode cX9_image 26 = .ok (.getfield 78, 3) := by decide +kernel
theorem dX9_image_29 : decode cX9_image 29 = .ok (.bipush 6, 2) := by decide +kernel
theorem dX9_image_31 : decode cX9_image 31 = .ok (.iload_n 1, 1) := by decide +kernel
theorem dX9_image_32 : decode cX9_image 32 = .ok (.iadd, 1) := by decide +kernel
theorem dX9_image_33 : decode cX9_image 33 = .ok (.aload_n 0, 1) := by decide +kernel
theorem dX9_image_34 : decode cX9_image 34 = .ok (.getfield 15, 3) := by decide +kernel
theorem dX9_image_37 : decode cX9_image 37 = .ok (.iload_n 1, 1) := by decide +kernel
theorem dX9_image_38 : decode cX9_image 38 = .ok (.iaload, 1) := by decide +kernel
theorem dX9_image_39 : decode cX9_image 39 = .ok (.iastore, 1) := by decide +kernel
theorem dX9_image_40 : decode cX9_image 40 = .ok (.aload_n 0, 1) := by decide +kernel
theorem dX9_image_41 : decode cX9_image 41 = .ok (.getfield 78, 3) := by decide +kernel
theorem dX9_image_44 : decode cX9_image 44 = .ok (.bipush 12, 2) := by decide +kernel
theorem dX9_image_46 : decode cX9_image 46 = .ok (.iload_n 1, 1) := by decide +kernel
theorem dX9_image_47 : decode cX9_image 47 = .ok (.iadd, 1) := by decide +kernel
theorem dX9_image_48 : decode cX9_image 48 = .ok (.aload_n 0, 1) := by decide +kernel
theorem dX9_image_49 : decode cX9_image 49 = .ok (.getfield 40, 3) := by decide +kernel
theorem dX9_image_52 : decode cX9_image 52 = .ok (.iload_n 1, 1) := by decide +kernel
theorem dX9_image_53 : decode cX9_image 53 = .ok (.iaload, 1) := by decide +kernel
theorem dX9_image_54 : decode cX9_image 54 = .ok (.iastore, 1) := by decide +kernel
theorem dX9_image_55 : decode cX9_image 55 = .ok (.aload_n 0, 1) := by decide +kernel
theorem dX9_image_56 : decode cX9_image 56 = .ok (.getfield 78, 3) := by decide +kernel
theorem dX9_image_59 : decode cX9_image 59 = .ok (.bipush 18, 2) := by decide +kernel
theorem dX9_image_61 : decode cX9_image 61 = .ok (.iload_n 1, 1) := by decide +kernel
theorem dX9_image_62 : decode cX9_image 62 = .ok (.iadd, 1) := by decide +kernel
theorem dX9_image_63 : decode cX9_image 63 = .ok (.aload_n 0, 1) := by decide +kernel
theorem dX9_image_64 : decode cX9_image 64 = .ok (.getfield 43, 3) := by decide +kernel
theorem dX9_image_67 : decode cX9_image 67 = .ok (.iload_n 1, 1) := by decide +kernel
theorem dX9_image_68 : decode cX9_image 68 = .ok (.iaload, 1) := by decide +kernel
theorem dX9_image_69 : decode cX9_image 69 = .ok (.iastore, 1) := by decide +kernel
theorem dX9_image_70 : decode cX9_image 70 = .ok (.iinc 1 1, 3) := by decide +kernel
theorem dX9_image_73 : decode cX9_image 73 = .ok (.goto (-66), 3) := by decide +kernel
theorem dX9_image_76 : decode cX9_image 76 = .ok (.iconst 0, 1) := by decide +kernel
theorem dX9_image_77 : decode cX9_image 77 = .ok (.istore_n 1, 1) := by decide +kernel
theorem dX9_image_78 : decode cX9_image 78 = .ok (.iload_n 1, 1) := by decide +kernel
theorem dX9_image_79 : decode cX9_image 79 = .ok (.bipush 8, 2) := by decide +kernel
theorem dX9_image_81 : decode cX9_image 81 = .ok (.if_icmp .ge 69, 3) := by decide +kernel
theorem dX9_image_84 : decode cX9_image 84 = .ok (.aload_n 0, 1) := by decide +kernel
theorem dX9_image_85 : decode cX9_image 85 = .ok (.getfield 78, 3) := by decide +kernel
theorem dX9_image_88 : decode cX9_image 88 = .ok (.bipush 24, 2) := by decide +kernel
theorem dX9_image_90 : decode cX9_image 90 = .ok (.iload_n 1, 1) := by decide +kernel
theorem dX9_image_91 : decode cX9_image 91 = .ok (.iadd, 1) := by decide +kernel
theorem dX9_image_92 : decode cX9_image 92 = .ok (.aload_n 0, 1) := by decide +kernel
theorem dX9_image_93 : decode cX9_image 93 = .ok (.getfield 18, 3) := by decide +kernel
theorem dX9_image_96 : decode cX9_image 96 = .ok (.iload_n 1, 1) := by decide +kernel
theorem dX9_image_97 : decode cX9_image 97 = .ok (.iaload, 1) := by decide +kernel
theorem dX9_image_98 : decode cX9_image 98 = .ok (.iastore, 1) := by decide +kernel
theorem dX9_image_99 : decode cX9_image 99 = .ok (.aload_n 0, 1) := by decide +kernel
theorem dX9_image_100 : decode cX9_image 100 = .ok (.getfield 78, 3) := by decide +kernel
theorem dX9_image_103 : decode cX9_image 103 = .ok (.bipush 32, 2) := by decide +kernel
theorem dX9_image_105 : decode cX9_image 105 = .ok (.iload_n 1, 1) := by decide +kernel
theorem dX9_image_106 : decode cX9_image 106 = .ok (.iadd, 1) := by decide +kernel
theorem dX9_image_107 : decode cX9_image 107 = .ok (.aload_n 0, 1) := by decide +kernel
theorem dX9_image_108 : decode cX9_image 108 = .ok (.getfield 21, 3) := by decide +kernel
theorem dX9_image_111 : decode cX9_image 111 = .ok (.iload_n 1, 1) := by decide +kernel
theorem dX9_image_112 : decode cX9_image 112 = .ok (.iaload, 1) := by decide +kernel
theorem dX9_image_113 : decode cX9_image 113 = .ok (.iastore, 1) := by decide +kernel
theorem dX9_image_114 : decode cX9_image 114 = .ok (.aload_n 0, 1) := by decide +kernel
theorem dX9_image_115 : decode cX9_image 115 = .ok (.getfield 78, 3) := by decide +kernel
theorem dX9_image_118 : decode cX9_image 118 = .ok (.bipush 40, 2) := by decide +kernel
theorem dX9_image_120 : decode cX9_image 120 = .ok (.iload_n 1, 1) := by decide +kernel
theorem dX9_image_121 : decode cX9_image 121 = .ok (.iadd, 1) := by decide +kernel
theorem dX9_image_122 : decode cX9_image 122 = .ok (.aload_n 0, 1) := by decide +kernel
theorem dX9_image_123 : decode cX9_image 123 = .ok (.getfield 24, 3) := by decide +kernel
theorem dX9_image_126 : decode cX9_image 126 = .ok (.iload_n 1, 1) := by decide +kernel
theorem dX9_image_127 : decode cX9_image 127 = .ok (.iaload, 1) := by decide +kernel
theorem dX9_image_128 : decode cX9_image 128 = .ok (.iastore, 1) := by decide +kernel
theorem dX9_image_129 : decode cX9_image 129 = .ok (.aload_n 0, 1) := by decide +kernel
theorem dX9_image_130 : decode cX9_image 130 = .ok (.getfield 78, 3) := by decide +kernel
theorem dX9_image_133 : decode cX9_image 133 = .ok (.bipush 48, 2) := by decide +kernel
theorem dX9_image_135 : decode cX9_image 135 = .ok (.iload_n 1, 1) := by decide +kernel
theorem dX9_image_136 : decode cX9_image 136 = .ok (.iadd, 1) := by decide +kernel
theorem dX9_image_137 : decode cX9_image 137 = .ok (.aload_n 0, 1) := by decide +kernel
theorem dX9_image_138 : decode cX9_image 138 = .ok (.getfield 49, 3) := by decide +kernel
theorem dX9_image_141 : decode cX9_image 141 = .ok (.iload_n 1, 1) := by decide +kernel
theorem dX9_image_142 : decode cX9_image 142 = .ok (.iaload, 1) := by decide +kernel
theorem dX9_image_143 : decode cX9_image 143 = .ok (.iastore, 1) := by decide +kernel
theorem dX9_image_144 : decode cX9_image 144 = .ok (.iinc 1 1, 3) := by decide +kernel
theorem dX9_image_147 : decode cX9_image 147 = .ok (.goto (-69), 3) := by decide +kernel
theorem dX9_image_150 : decode cX9_image 150 = .ok (.iconst 0, 1) := by decide +kernel
theorem dX9_image_151 : decode cX9_image 151 = .ok (.istore_n 1, 1) := by decide +kernel
theorem dX9_image_152 : decode cX9_image 152 = .ok (.iload_n 1, 1) := by decide +kernel
theorem dX9_image_153 : decode cX9_image 153 = .ok (.bipush 32, 2) := by decide +kernel
theorem dX9_image_155 : decode cX9_image 155 = .ok (.if_icmp .ge 24, 3) := by decide +kernel
theorem dX9_image_158 : decode cX9_image 158 = .ok (.aload_n 0, 1) := by decide +kernel
theorem dX9_image_159 : decode cX9_image 159 = .ok (.getfield 78, 3) := by decide +kernel
theorem dX9_image_162 : decode cX9_image 162 = .ok (.bipush 56, 2) := by decide +kernel
theorem dX9_image_164 : decode cX9_image 164 = .ok (.iload_n 1, 1) := by decide +kernel
theorem dX9_image_165 : decode cX9_image 165 = .ok (.iadd, 1) := by decide +kernel
theorem dX9_image_166 : decode cX9_image 166 = .ok (.aload_n 0, 1) := by decide +kernel
theorem dX9_image_167 : decode cX9_image 167 = .ok (.getfield 27, 3) := by decide +kernel
theorem dX9_image_170 : decode cX9_image 170 = .ok (.iload_n 1, 1) := by decide +kernel
theorem dX9_image_171 : decode cX9_image 171 = .ok (.iaload, 1) := by decide +kernel
theorem dX9_image_172 : decode cX9_image 172 = .ok (.iastore, 1) := by decide +kernel
theorem dX9_image_173 : decode cX9_image 173 = .ok (.iinc 1 1, 3) := by decide +kernel
theorem dX9_image_176 : decode cX9_image 176 = .ok (.goto (-24), 3) := by decide +kernel
theorem dX9_image_179 : decode cX9_image 179 = .ok (.iconst 0, 1) := by decide +kernel
theorem dX9_image_180 : decode cX9_image 180 = .ok (.istore_n 1, 1) := by decide +kernel
theorem dX9_image_181 : decode cX9_image 181 = .ok (.iload_n 1, 1) := by decide +kernel
theorem dX9_image_182 : decode cX9_image 182 = .ok (.bipush 16, 2) := by decide +kernel
theorem dX9_image_184 : decode cX9_image 184 = .ok (.if_icmp .ge 24, 3) := by decide +kernel
theorem dX9_image_187 : decode cX9_image 187 = .ok (.aload_n 0, 1) := by decide +kernel
theorem dX9_image_188 : decode cX9_image 188 = .ok (.getfield 78, 3) := by decide +kernel
theorem dX9_image_191 : decode cX9_image 191 = .ok (.bipush 88, 2) := by decide +kernel
theorem dX9_image_193 : decode cX9_image 193 = .ok (.iload_n 1, 1) := by decide +kernel
theorem dX9_image_194 : decode cX9_image 194 = .ok (.iadd, 1) := by decide +kernel
theorem dX9_image_195 : decode cX9_image 195 = .ok (.aload_n 0, 1) := by decide +kernel
theorem dX9_image_196 : decode cX9_image 196 = .ok (.getfield 46, 3) := by decide +kernel
theorem dX9_image_199 : decode cX9_image 199 = .ok (.iload_n 1, 1) := by decide +kernel
theorem dX9_image_200 : decode cX9_image 200 = .ok (.iaload, 1) := by decide +kernel
theorem dX9_image_201 : decode cX9_image 201 = .ok (.iastore, 1) := by decide +kernel
theorem dX9_image_202 : decode cX9_image 202 = .ok (.iinc 1 1, 3) := by decide +kernel
theorem dX9_image_205 : decode cX9_image 205 = .ok (.goto (-24), 3) := by decide +kernel
theorem dX9_image_208 : decode cX9_image 208 = .ok (.iconst 0, 1) := by decide +kernel
theorem dX9_image_209 : decode cX9_image 209 = .ok (.istore_n 1, 1) := by decide +kernel
theorem dX9_image_210 : decode cX9_image 210 = .ok (.iload_n 1, 1) := by decide +kernel
theorem dX9_image_211 : decode cX9_image 211 = .ok (.iconst 3, 1) := by decide +kernel
theorem dX9_image_212 : decode cX9_image 212 = .ok (.if_icmp .ge 39, 3) := by decide +kernel
theorem dX9_image_215 : decode cX9_image 215 = .ok (.aload_n 0, 1) := by decide +kernel
theorem dX9_image_216 : decode cX9_image 216 = .ok (.getfield 78, 3) := by decide +kernel
theorem dX9_image_219 : decode cX9_image 219 = .ok (.bipush 104, 2) := by decide +kernel
theorem dX9_image_221 : decode cX9_image 221 = .ok (.iload_n 1, 1) := by decide +kernel
theorem dX9_image_222 : decode cX9_image 222 = .ok (.iadd, 1) := by decide +kernel
theorem dX9_image_223 : decode cX9_image 223 = .ok (.aload_n 0, 1) := by decide +kernel
theorem dX9_image_224 : decode cX9_image 224 = .ok (.getfield 34, 3) := by decide +kernel
theorem dX9_image_227 : decode cX9_image 227 = .ok (.iload_n 1, 1) := by decide +kernel
theorem dX9_image_228 : decode cX9_image 228 = .ok (.iaload, 1) := by decide +kernel
theorem dX9_image_229 : decode cX9_image 229 = .ok (.iastore, 1) := by decide +kernel
theorem dX9_image_230 : decode cX9_image 230 = .ok (.aload_n 0, 1) := by decide +kernel
theorem dX9_image_231 : decode cX9_image 231 = .ok (.getfield 78, 3) := by decide +kernel
theorem dX9_image_234 : decode cX9_image 234 = .ok (.bipush 107, 2) := by decide +kernel
theorem dX9_image_236 : decode cX9_image 236 = .ok (.iload_n 1, 1) := by decide +kernel
theorem dX9_image_237 : decode cX9_image 237 = .ok (.iadd, 1) := by decide +kernel
theorem dX9_image_238 : decode cX9_image 238 = .ok (.aload_n 0, 1) := by decide +kernel
theorem dX9_image_239 : decode cX9_image 239 = .ok (.getfield 37, 3) := by decide +kernel
theorem dX9_image_242 : decode cX9_image 242 = .ok (.iload_n 1, 1) := by decide +kernel
theorem dX9_image_243 : decode cX9_image 243 = .ok (.iaload, 1) := by decide +kernel
theorem dX9_image_244 : decode cX9_image 244 = .ok (.iastore, 1) := by decide +kernel
theorem dX9_image_245 : decode cX9_image 245 = .ok (.iinc 1 1, 3) := by decide +kernel
theorem dX9_image_248 : decode cX9_image 248 = .ok (.goto (-38), 3) := by decide +kernel
theorem dX9_image_251 : decode cX9_image 251 = .ok (.aload_n 0, 1) := by decide +kernel
theorem dX9_image_252 : decode cX9_image 252 = .ok (.getfield 78, 3) := by decide +kernel
theorem dX9_image_255 : decode cX9_image 255 = .ok (.bipush 110, 2) := by decide +kernel
theorem dX9_image_257 : decode cX9_image 257 = .ok (.aload_n 0, 1) := by decide +kernel
theorem dX9_image_258 : decode cX9_image 258 = .ok (.getfield 90, 3) := by decide +kernel
theorem dX9_image_261 : decode cX9_image 261 = .ok (.iastore, 1) := by decide +kernel
theorem dX9_image_262 : decode cX9_image 262 = .ok (.aload_n 0, 1) := by decide +kernel
theorem dX9_image_263 : decode cX9_image 263 = .ok (.getfield 78, 3) := by decide +kernel
theorem dX9_image_266 : decode cX9_image 266 = .ok (.bipush 111, 2) := by decide +kernel
theorem dX9_image_268 : decode cX9_image 268 = .ok (.aload_n 0, 1) := by decide +kernel
theorem dX9_image_269 : decode cX9_image 269 = .ok (.getfield 97, 3) := by decide +kernel
theorem dX9_image_272 : decode cX9_image 272 = .ok (.iastore, 1) := by decide +kernel
theorem dX9_image_273 : decode cX9_image 273 = .ok (.aload_n 0, 1) := by decide +kernel
theorem dX9_image_274 : decode cX9_image 274 = .ok (.getfield 78, 3) := by decide +kernel
theorem dX9_image_277 : decode cX9_image 277 = .ok (.bipush 112, 2) := by decide +kernel
theorem dX9_image_279 : decode cX9_image 279 = .ok (.aload_n 0, 1) := by decide +kernel
theorem dX9_image_280 : decode cX9_image 280 = .ok (.getfield 30, 3) := by decide +kernel
theorem dX9_image_283 : decode cX9_image 283 = .ok (.iastore, 1) := by decide +kernel
theorem dX9_image_284 : decode cX9_image 284 = .ok (.aload_n 0, 1) := by decide +kernel
theorem dX9_image_285 : decode cX9_image 285 = .ok (.getfield 78, 3) := by decide +kernel
theorem dX9_image_288 : decode cX9_image 288 = .ok (.bipush 113, 2) := by decide +kernel
theorem dX9_image_290 : decode cX9_image 290 = .ok (.aload_n 0, 1) := by decide +kernel
theorem dX9_image_291 : decode cX9_image 291 = .ok (.getfield 121, 3) := by decide +kernel
theorem dX9_image_294 : decode cX9_image 294 = .ok (.iastore, 1) := by decide +kernel
theorem dX9_image_295 : decode cX9_image 295 = .ok (.aload_n 0, 1) := by decide +kernel
theorem dX9_image_296 : decode cX9_image 296 = .ok (.getfield 78, 3) := by decide +kernel
theorem dX9_image_299 : decode cX9_image 299 = .ok (.bipush 114, 2) := by decide +kernel
theorem dX9_image_301 : decode cX9_image 301 = .ok (.aload_n 0, 1) := by decide +kernel
theorem dX9_image_302 : decode cX9_image 302 = .ok (.getfield 268, 3) := by decide +kernel
theorem dX9_image_305 : decode cX9_image 305 = .ok (.iastore, 1) := by decide +kernel
theorem dX9_image_306 : decode cX9_image 306 = .ok (.aload_n 0, 1) := by decide +kernel
theorem dX9_image_307 : decode cX9_image 307 = .ok (.getfield 78, 3) := by decide +kernel
theorem dX9_image_310 : decode cX9_image 310 = .ok (.bipush 115, 2) := by decide +kernel
theorem dX9_image_312 : decode cX9_image 312 = .ok (.aload_n 0, 1) := by decide +kernel
theorem dX9_image_313 : decode cX9_image 313 = .ok (.getfield 275, 3) := by decide +kernel
theorem dX9_image_316 : decode cX9_image 316 = .ok (.iastore, 1) := by decide +kernel
theorem dX9_image_317 : decode cX9_image 317 = .ok (.aload_n 0, 1) := by decide +kernel
theorem dX9_image_318 : decode cX9_image 318 = .ok (.getfield 78, 3) := by decide +kernel
theorem dX9_image_321 : decode cX9_image 321 = .ok (.bipush 116, 2) := by decide +kernel
theorem dX9_image_323 : decode cX9_image 323 = .ok (.aload_n 0, 1) := by decide +kernel
theorem dX9_image_324 : decode cX9_image 324 = .ok (.getfield 278, 3) := by decide +kernel
theorem dX9_image_327 : decode cX9_image 327 = .ok (.iastore, 1) := by decide +kernel
theorem dX9_image_328 : decode cX9_image 328 = .ok (.aload_n 0, 1) := by decide +kernel
theorem dX9_image_329 : decode cX9_image 329 = .ok (.getfield 97, 3) := by decide +kernel
theorem dX9_image_332 : decode cX9_image 332 = .ok (.ireturn, 1) := by decide +kernel
theorem dX9_undo_0 : decode cX9_undo 0 = .ok (.aload_n 0, 1) := by decide +kernel
theorem dX9_undo_1 : decode cX9_undo 1 = .ok (.getfield 287, 3) := by decide +kernel
theorem dX9_undo_4 : decode cX9_undo 4 = .ok (.ifCond .ne 6, 3) := by decide +kernel
theorem dX9_undo_7 : decode cX9_undo 7 = .ok (.bipush (-3), 2) := by decide +kernel
theorem dX9_undo_9 : decode cX9_undo 9 = .ok (.ireturn, 1) := by decide +kernel
theorem dX9_undo_10 : decode cX9_undo 10 = .ok (.iconst 0, 1) := by decide +kernel
theorem dX9_undo_11 : decode cX9_undo 11 = .ok (.istore_n 1, 1) := by decide +kernel
theorem dX9_undo_12 : decode cX9_undo 12 = .ok (.iload_n 1, 1) := by decide +kernel
theorem dX9_undo_13 : decode cX9_undo 13 = .ok (.bipush 6, 2) := by decide +kernel
theorem dX9_undo_15 : decode cX9_undo 15 = .ok (.if_icmp .ge 66, 3) := by decide +kernel
theorem dX9_undo_18 : decode cX9_undo 18 = .ok (.aload_n 0, 1) := by decide +kernel
theorem dX9_undo_19 : decode cX9_undo 19 = .ok (.getfield 9, 3) := by decide +kernel
theorem dX9_undo_22 : decode cX9_undo 22 = .ok (.iload_n 1, 1) := by decide +kernel
theorem dX9_undo_23 : decode cX9_undo 23 = .ok (.aload_n 0, 1) := by decide +kernel
theorem dX9_undo_24 : decode cX9_undo 24 = .ok (.getfield 78, 3) := by decide +kernel
theorem dX9_undo_27 : decode cX9_undo 27 = .ok (.iload_n 1, 1) := by decide +kernel
theorem dX9_undo_28 : decode cX9_undo 28 = .ok (.iaload, 1) := by decide +kernel
theorem dX9_undo_29 : decode cX9_undo 29 = .ok (.iastore, 1) := by decide +kernel
theorem dX9_undo_30 : decode cX9_undo 30 = .ok (.aload_n 0, 1) := by decide +kernel
theorem dX9_undo_31 : decode cX9_undo 31 = .ok (.getfield 15, 3) := by decide +kernel
theorem dX9_undo_34 : decode cX9_undo 34 = .ok (.iload_n 1, 1) := by decide +kernel
theorem dX9_undo_35 : decode cX9_undo 35 = .ok (.aload_n 0, 1) := by decide +kernel
theorem dX9_undo_36 : decode cX9_undo 36 = .ok (.getfield 78, 3) := by decide +kernel
theorem dX9_undo_39 : decode cX9_undo 39 = .ok (.bipush 6, 2) := by decide +kernel
theorem dX9_undo_41 : decode cX9_undo 41 = .ok (.iload_n 1, 1) := by decide +kernel
theorem dX9_undo_42 : decode cX9_undo 42 = .ok (.iadd, 1) := by decide +kernel
theorem dX9_undo_43 : decode cX9_undo 43 = .ok (.iaload, 1) := by decide +kernel
theorem dX9_undo_44 : decode cX9_undo 44 = .ok (.iastore, 1) := by decide +kernel
theorem dX9_undo_45 : decode cX9_undo 45 = .ok (.aload_n 0, 1) := by decide +kernel
theorem dX9_undo_46 : decode cX9_undo 46 = .ok (.getfield 40, 3) := by decide +kernel
theorem dX9_undo_49 : decode cX9_undo 49 = .ok (.iload_n 1, 1) := by decide +kernel
theorem dX9_undo_50 : decode cX9_undo 50 = .ok (.aload_n 0, 1) := by decide +kernel
theorem dX9_undo_51 : decode cX9_undo 51 = .ok (.getfield 78, 3) := by decide +kernel
theorem dX9_undo_54 : decode cX9_undo 54 = .ok (.bipush 12, 2) := by decide +kernel
theorem dX9_undo_56 : decode cX9_undo 56 = .ok (.iload_n 1, 1) := by decide +kernel
theorem dX9_undo_57 : decode cX9_undo 57 = .ok (.iadd, 1) := by decide +kernel
theorem dX9_undo_58 : decode cX9_undo 58 = .ok (.iaload, 1) := by decide +kernel
theorem dX9_undo_59 : decode cX9_undo 59 = .ok (.iastore, 1) := by decide +kernel
theorem dX9_undo_60 : decode cX9_undo 60 = .ok (.aload_n 0, 1) := by decide +kernel
theorem dX9_undo_61 : decode cX9_undo 61 = .ok (.getfield 43, 3) := by decide +kernel
theorem dX9_undo_64 : decode cX9_undo 64 = .ok (.iload_n 1, 1) := by decide +kernel
theorem dX9_undo_65 : decode cX9_undo 65 = .ok (.aload_n 0, 1) := by decide +kernel
theorem dX9_undo_66 : decode cX9_undo 66 = .ok (.getfield 78, 3) := by decide +kernel
theorem dX9_undo_69 : decode cX9_undo 69 = .ok (.bipush 18, 2) := by decide +kernel
theorem dX9_undo_71 : decode cX9_undo 71 = .ok (.iload_n 1, 1) := by decide +kernel
theorem dX9_undo_72 : decode cX9_undo 72 = .ok (.iadd, 1) := by decide +kernel
theorem dX9_undo_73 : decode cX9_undo 73 = .ok (.iaload, 1) := by decide +kernel
theorem dX9_undo_74 : decode cX9_undo 74 = .ok (.iastore, 1) := by decide +kernel
theorem dX9_undo_75 : decode cX9_undo 75 = .ok (.iinc 1 1, 3) := by decide +kernel
theorem dX9_undo_78 : decode cX9_undo 78 = .ok (.goto (-66), 3) := by decide +kernel
theorem dX9_undo_81 : decode cX9_undo 81 = .ok (.iconst 0, 1) := by decide +kernel
theorem dX9_undo_82 : decode cX9_undo 82 = .ok (.istore_n 1, 1) := by decide +kernel
theorem dX9_undo_83 : decode cX9_undo 83 = .ok (.iload_n 1, 1) := by decide +kernel
theorem dX9_undo_84 : decode cX9_undo 84 = .ok (.bipush 8, 2) := by decide +kernel
theorem dX9_undo_86 : decode cX9_undo 86 = .ok (.if_icmp .ge 69, 3) := by decide +kernel
theorem dX9_undo_89 : decode cX9_undo 89 = .ok (.aload_n 0, 1) := by decide +kernel
theorem dX9_undo_90 : decode cX9_undo 90 = .ok (.getfield 18, 3) := by decide +kernel
theorem dX9_undo_93 : decode cX9_undo 93 = .ok (.iload_n 1, 1) := by decide +kernel
theorem dX9_undo_94 : decode cX9_undo 94 = .ok (.aload_n 0, 1) := by decide +kernel
theorem dX9_undo_95 : decode cX9_undo 95 = .ok (.getfield 78, 3) := by decide +kernel
theorem dX9_undo_98 : decode cX9_undo 98 = .ok (.bipush 24, 2) := by decide +kernel
theorem dX9_undo_100 : decode cX9_undo 100 = .ok (.iload_n 1, 1) := by decide +kernel
theorem dX9_undo_101 : decode cX9_undo 101 = .ok (.iadd, 1) := by decide +kernel
theorem dX9_undo_102 : decode cX9_undo 102 = .ok (.iaload, 1) := by decide +kernel
theorem dX9_undo_103 : decode cX9_undo 103 = .ok (.iastore, 1) := by decide +kernel
theorem dX9_undo_104 : decode cX9_undo 104 = .ok (.aload_n 0, 1) := by decide +kernel
theorem dX9_undo_105 : decode cX9_undo 105 = .ok (.getfield 21, 3) := by decide +kernel
theorem dX9_undo_108 : decode cX9_undo 108 = .ok (.iload_n 1, 1) := by decide +kernel
theorem dX9_undo_109 : decode cX9_undo 109 = .ok (.aload_n 0, 1) := by decide +kernel
theorem dX9_undo_110 : decode cX9_undo 110 = .ok (.getfield 78, 3) := by decide +kernel
theorem dX9_undo_113 : decode cX9_undo 113 = .ok (.bipush 32, 2) := by decide +kernel
theorem dX9_undo_115 : decode cX9_undo 115 = .ok (.iload_n 1, 1) := by decide +kernel
theorem dX9_undo_116 : decode cX9_undo 116 = .ok (.iadd, 1) := by decide +kernel
theorem dX9_undo_117 : decode cX9_undo 117 = .ok (.iaload, 1) := by decide +kernel
theorem dX9_undo_118 : decode cX9_undo 118 = .ok (.iastore, 1) := by decide +kernel
theorem dX9_undo_119 : decode cX9_undo 119 = .ok (.aload_n 0, 1) := by decide +kernel
theorem dX9_undo_120 : decode cX9_undo 120 = .ok (.getfield 24, 3) := by decide +kernel
theorem dX9_undo_123 : decode cX9_undo 123 = .ok (.iload_n 1, 1) := by decide +kernel
theorem dX9_undo_124 : decode cX9_undo 124 = .ok (.aload_n 0, 1) := by decide +kernel
theorem dX9_undo_125 : decode cX9_undo 125 = .ok (.getfield 78, 3) := by decide +kernel
theorem dX9_undo_128 : decode cX9_undo 128 = .ok (.bipush 40, 2) := by decide +kernel
theorem dX9_undo_130 : decode cX9_undo 130 = .ok (.iload_n 1, 1) := by decide +kernel
theorem dX9_undo_131 : decode cX9_undo 131 = .ok (.iadd, 1) := by decide +kernel
theorem dX9_undo_132 : decode cX9_undo 132 = .ok (.iaload, 1) := by decide +kernel
theorem dX9_undo_133 : decode cX9_undo 133 = .ok (.iastore, 1) := by decide +kernel
theorem dX9_undo_134 : decode cX9_undo 134 = .ok (.aload_n 0, 1) := by decide +kernel
theorem dX9_undo_135 : decode cX9_undo 135 = .ok (.getfield 49, 3) := by decide +kernel
theorem dX9_undo_138 : decode cX9_undo 138 = .ok (.iload_n 1, 1) := by decide +kernel
theorem dX9_undo_139 : decode cX9_undo 139 = .ok (.aload_n 0, 1) := by decide +kernel
theorem dX9_undo_140 : decode cX9_undo 140 = .ok (.getfield 78, 3) := by decide +kernel
theorem dX9_undo_143 : decode cX9_undo 143 = .ok (.bipush 48, 2) := by decide +kernel
theorem dX9_undo_145 : decode cX9_undo 145 = .ok (.iload_n 1, 1) := by decide +kernel
theorem dX9_undo_146 : decode cX9_undo 146 = .ok (.iadd, 1) := by decide +kernel
theorem dX9_undo_147 : decode cX9_undo 147 = .ok (.iaload, 1) := by decide +kernel
theorem dX9_undo_148 : decode cX9_undo 148 = .ok (.iastore, 1) := by decide +kernel
theorem dX9_undo_149 : decode cX9_undo 149 = .ok (.iinc 1 1, 3) := by decide +kernel
theorem dX9_undo_152 : decode cX9_undo 152 = .ok (.goto (-69), 3) := by decide +kernel
theorem dX9_undo_155 : decode cX9_undo 155 = .ok (.iconst 0, 1) := by decide +kernel
theorem dX9_undo_156 : decode cX9_undo 156 = .ok (.istore_n 1, 1) := by decide +kernel
theorem dX9_undo_157 : decode cX9_undo 157 = .ok (.iload_n 1, 1) := by decide +kernel
theorem dX9_undo_158 : decode cX9_undo 158 = .ok (.bipush 32, 2) := by decide +kernel
theorem dX9_undo_160 : decode cX9_undo 160 = .ok (.if_icmp .ge 24, 3) := by decide +kernel
theorem dX9_undo_163 : decode cX9_undo 163 = .ok (.aload_n 0, 1) := by decide +kernel
theorem dX9_undo_164 : decode cX9_undo 164 = .ok (.getfield 27, 3) := by decide +kernel
theorem dX9_undo_167 : decode cX9_undo 167 = .ok (.iload_n 1, 1) := by decide +kernel
theorem dX9_undo_168 : decode cX9_undo 168 = .ok (.aload_n 0, 1) := by decide +kernel
theorem dX9_undo_169 : decode cX9_undo 169 = .ok (.getfield 78, 3) := by decide +kernel
theorem dX9_undo_172 : decode cX9_undo 172 = .ok (.bipush 56, 2) := by decide +kernel
theorem dX9_undo_174 : decode cX9_undo 174 = .ok (.iload_n 1, 1) := by decide +kernel
theorem dX9_undo_175 : decode cX9_undo 175 = .ok (.iadd, 1) := by decide +kernel
theorem dX9_undo_176 : decode cX9_undo 176 = .ok (.iaload, 1) := by decide +kernel
theorem dX9_undo_177 : decode cX9_undo 177 = .ok (.iastore, 1) := by decide +kernel
theorem dX9_undo_178 : decode cX9_undo 178 = .ok (.iinc 1 1, 3) := by decide +kernel
theorem dX9_undo_181 : decode cX9_undo 181 = .ok (.goto (-24), 3) := by decide +kernel
theorem dX9_undo_184 : decode cX9_undo 184 = .ok (.iconst 0, 1) := by decide +kernel
theorem dX9_undo_185 : decode cX9_undo 185 = .ok (.istore_n 1, 1) := by decide +kernel
theorem dX9_undo_186 : decode cX9_undo 186 = .ok (.iload_n 1, 1) := by decide +kernel
theorem dX9_undo_187 : decode cX9_undo 187 = .ok (.bipush 16, 2) := by decide +kernel
theorem dX9_undo_189 : decode cX9_undo 189 = .ok (.if_icmp .ge 24, 3) := by decide +kernel
theorem dX9_undo_192 : decode cX9_undo 192 = .ok (.aload_n 0, 1) := by decide +kernel
theorem dX9_undo_193 : decode cX9_undo 193 = .ok (.getfield 46, 3) := by decide +kernel
theorem dX9_undo_196 : decode cX9_undo 196 = .ok (.iload_n 1, 1) := by decide +kernel
theorem dX9_undo_197 : decode cX9_undo 197 = .ok (.aload_n 0, 1) := by decide +kernel
theorem dX9_undo_198 : decode cX9_undo 198 = .ok (.getfield 78, 3) := by decide +kernel
theorem dX9_undo_201 : decode cX9_undo 201 = .ok (.bipush 88, 2) := by decide +kernel
theorem dX9_undo_203 : decode cX9_undo 203 = .ok (.iload_n 1, 1) := by decide +kernel
theorem dX9_undo_204 : decode cX9_undo 204 = .ok (.iadd, 1) := by decide +kernel
theorem dX9_undo_205 : decode cX9_undo 205 = .ok (.iaload, 1) := by decide +kernel
theorem dX9_undo_206 : decode cX9_undo 206 = .ok (.iastore, 1) := by decide +kernel
theorem dX9_undo_207 : decode cX9_undo 207 = .ok (.iinc 1 1, 3) := by decide +kernel
theorem dX9_undo_210 : decode cX9_undo 210 = .ok (.goto (-24), 3) := by decide +kernel
theorem dX9_undo_213 : decode cX9_undo 213 = .ok (.iconst 0, 1) := by decide +kernel
theorem dX9_undo_214 : decode cX9_undo 214 = .ok (.istore_n 1, 1) := by decide +kernel
theorem dX9_undo_215 : decode cX9_undo 215 = .ok (.iload_n 1, 1) := by decide +kernel
theorem dX9_undo_216 : decode cX9_undo 216 = .ok (.iconst 3, 1) := by decide +kernel
theorem dX9_undo_217 : decode cX9_undo 217 = .ok (.if_icmp .ge 39, 3) := by decide +kernel
theorem dX9_undo_220 : decode cX9_undo 220 = .ok (.aload_n 0, 1) := by decide +kernel
theorem dX9_undo_221 : decode cX9_undo 221 = .ok (.getfield 34, 3) := by decide +kernel
theorem dX9_undo_224 : decode cX9_undo 224 = .ok (.iload_n 1, 1) := by decide +kernel
theorem dX9_undo_225 : decode cX9_undo 225 = .ok (.aload_n 0, 1) := by decide +kernel
theorem dX9_undo_226 : decode cX9_undo 226 = .ok (.getfield 78, 3) := by decide +kernel
theorem dX9_undo_229 : decode cX9_undo 229 = .ok (.bipush 104, 2) := by decide +kernel
theorem dX9_undo_231 : decode cX9_undo 231 = .ok (.iload_n 1, 1) := by decide +kernel
theorem dX9_undo_232 : decode cX9_undo 232 = .ok (.iadd, 1) := by decide +kernel
theorem dX9_undo_233 : decode cX9_undo 233 = .ok (.iaload, 1) := by decide +kernel
theorem dX9_undo_234 : decode cX9_undo 234 = .ok (.iastore, 1) := by decide +kernel
theorem dX9_undo_235 : decode cX9_undo 235 = .ok (.aload_n 0, 1) := by decide +kernel
theorem dX9_undo_236 : decode cX9_undo 236 = .ok (.getfield 37, 3) := by decide +kernel
theorem dX9_undo_239 : decode cX9_undo 239 = .ok (.iload_n 1, 1) := by decide +kernel
theorem dX9_undo_240 : decode cX9_undo 240 = .ok (.aload_n 0, 1) := by decide +kernel
theorem dX9_undo_241 : decode cX9_undo 241 = .ok (.getfield 78, 3) := by decide +kernel
theorem dX9_undo_244 : decode cX9_undo 244 = .ok (.bipush 107, 2) := by decide +kernel
theorem dX9_undo_246 : decode cX9_undo 246 = .ok (.iload_n 1, 1) := by decide +kernel
theorem dX9_undo_247 : decode cX9_undo 247 = .ok (.iadd, 1) := by decide +kernel
theorem dX9_undo_248 : decode cX9_undo 248 = .ok (.iaload, 1) := by decide +kernel
theorem dX9_undo_249 : decode cX9_undo 249 = .ok (.iastore, 1) := by decide +kernel
theorem dX9_undo_250 : decode cX9_undo 250 = .ok (.iinc 1 1, 3) := by decide +kernel
theorem dX9_undo_253 : decode cX9_undo 253 = .ok (.goto (-38), 3) := by decide +kernel
theorem dX9_undo_256 : decode cX9_undo 256 = .ok (.aload_n 0, 1) := by decide +kernel
theorem dX9_undo_257 : decode cX9_undo 257 = .ok (.aload_n 0, 1) := by decide +kernel
theorem dX9_undo_258 : decode cX9_undo 258 = .ok (.getfield 78, 3) := by decide +kernel
theorem dX9_undo_261 : decode cX9_undo 261 = .ok (.bipush 110, 2) := by decide +kernel
theorem dX9_undo_263 : decode cX9_undo 263 = .ok (.iaload, 1) := by decide +kernel
theorem dX9_undo_264 : decode cX9_undo 264 = .ok (.putfield 90, 3) := by decide +kernel
theorem dX9_undo_267 : decode cX9_undo 267 = .ok (.aload_n 0, 1) := by decide +kernel
theorem dX9_undo_268 : decode cX9_undo 268 = .ok (.aload_n 0, 1) := by decide +kernel
theorem dX9_undo_269 : decode cX9_undo 269 = .ok (.getfield 78, 3) := by decide +kernel
theorem dX9_undo_272 : decode cX9_undo 272 = .ok (.bipush 111, 2) := by decide +kernel
theorem dX9_undo_274 : decode cX9_undo 274 = .ok (.iaload, 1) := by decide +kernel
theorem dX9_undo_275 : decode cX9_undo 275 = .ok (.putfield 97, 3) := by decide +kernel
theorem dX9_undo_278 : decode cX9_undo 278 = .ok (.aload_n 0, 1) := by decide +kernel
theorem dX9_undo_279 : decode cX9_undo 279 = .ok (.aload_n 0, 1) := by decide +kernel
theorem dX9_undo_280 : decode cX9_undo 280 = .ok (.getfield 78, 3) := by decide +kernel
theorem dX9_undo_283 : decode cX9_undo 283 = .ok (.bipush 112, 2) := by decide +kernel
theorem dX9_undo_285 : decode cX9_undo 285 = .ok (.iaload, 1) := by decide +kernel
theorem dX9_undo_286 : decode cX9_undo 286 = .ok (.putfield 30, 3) := by decide +kernel
theorem dX9_undo_289 : decode cX9_undo 289 = .ok (.aload_n 0, 1) := by decide +kernel
theorem dX9_undo_290 : decode cX9_undo 290 = .ok (.aload_n 0, 1) := by decide +kernel
theorem dX9_undo_291 : decode cX9_undo 291 = .ok (.getfield 78, 3) := by decide +kernel
theorem dX9_undo_294 : decode cX9_undo 294 = .ok (.bipush 113, 2) := by decide +kernel
theorem dX9_undo_296 : decode cX9_undo 296 = .ok (.iaload, 1) := by decide +kernel
theorem dX9_undo_297 : decode cX9_undo 297 = .ok (.putfield 121, 3) := by decide +kernel
theorem dX9_undo_300 : decode cX9_undo 300 = .ok (.aload_n 0, 1) := by decide +kernel
theorem dX9_undo_301 : decode cX9_undo 301 = .ok (.aload_n 0, 1) := by decide +kernel
theorem dX9_undo_302 : decode cX9_undo 302 = .ok (.getfield 78, 3) := by decide +kernel
theorem dX9_undo_305 : decode cX9_undo 305 = .ok (.bipush 114, 2) := by decide +kernel
theorem dX9_undo_307 : decode cX9_undo 307 = .ok (.iaload, 1) := by decide +kernel
theorem dX9_undo_308 : decode cX9_undo 308 = .ok (.putfield 268, 3) := by decide +kernel
theorem dX9_undo_311 : decode cX9_undo 311 = .ok (.aload_n 0, 1) := by decide +kernel
theorem dX9_undo_312 : decode cX9_undo 312 = .ok (.aload_n 0, 1) := by decide +kernel
theorem dX9_undo_313 : decode cX9_undo 313 = .ok (.getfield 78, 3) := by decide +kernel
theorem dX9_undo_316 : decode cX9_undo 316 = .ok (.bipush 115, 2) := by decide +kernel
theorem dX9_undo_318 : decode cX9_undo 318 = .ok (.iaload, 1) := by decide +kernel
theorem dX9_undo_319 : decode cX9_undo 319 = .ok (.putfield 275, 3) := by decide +kernel
theorem dX9_undo_322 : decode cX9_undo 322 = .ok (.aload_n 0, 1) := by decide +kernel
theorem dX9_undo_323 : decode cX9_undo 323 = .ok (.aload_n 0, 1) := by decide +kernel
theorem dX9_undo_324 : decode cX9_undo 324 = .ok (.getfield 78, 3) := by decide +kernel
theorem dX9_undo_327 : decode cX9_undo 327 = .ok (.bipush 116, 2) := by decide +kernel
theorem dX9_undo_329 : decode cX9_undo 329 = .ok (.iaload, 1) := by decide +kernel
theorem dX9_undo_330 : decode cX9_undo 330 = .ok (.putfield 278, 3) := by decide +kernel
theorem dX9_undo_333 : decode cX9_undo 333 = .ok (.aload_n 0, 1) := by decide +kernel
theorem dX9_undo_334 : decode cX9_undo 334 = .ok (.getfield 97, 3) := by decide +kernel
theorem dX9_undo_337 : decode cX9_undo 337 = .ok (.ireturn, 1) := by decide +kernel
theorem dX9_count_0 : decode cX9_count 0 = .ok (.iload_n 1, 1) := by decide +kernel
theorem dX9_count_1 : decode cX9_count 1 = .ok (.tableswitch 51 0 3 #[31, 36, 41, 46], 31) := by decide +kernel
theorem dX9_count_32 : decode cX9_count 32 = .ok (.aload_n 0, 1) := by decide +kernel
theorem dX9_count_33 : decode cX9_count 33 = .ok (.getfield 268, 3) := by decide +kernel
theorem dX9_count_36 : decode cX9_count 36 = .ok (.ireturn, 1) := by decide +kernel
theorem dX9_count_37 : decode cX9_count 37 = .ok (.aload_n 0, 1) := by decide +kernel
theorem dX9_count_38 : decode cX9_count 38 = .ok (.getfield 275, 3) := by decide +kernel
theorem dX9_count_41 : decode cX9_count 41 = .ok (.ireturn, 1) := by decide +kernel
theorem dX9_count_42 : decode cX9_count 42 = .ok (.aload_n 0, 1) := by decide +kernel
theorem dX9_count_43 : decode cX9_count 43 = .ok (.getfield 278, 3) := by decide +kernel
theorem dX9_count_46 : decode cX9_count 46 = .ok (.ireturn, 1) := by decide +kernel
theorem dX9_count_47 : decode cX9_count 47 = .ok (.aload_n 0, 1) := by decide +kernel
theorem dX9_count_48 : decode cX9_count 48 = .ok (.getfield 132, 3) := by decide +kernel
theorem dX9_count_51 : decode cX9_count 51 = .ok (.ireturn, 1) := by decide +kernel
theorem dX9_count_52 : decode cX9_count 52 = .ok (.bipush (-2), 2) := by decide +kernel
theorem dX9_count_54 : decode cX9_count 54 = .ok (.ireturn, 1) := by decide +kernel
theorem dX9_isTape_0 : decode cX9_isTape 0 = .ok (.iload_n 0, 1) := by decide +kernel
theorem dX9_isTape_1 : decode cX9_isTape 1 = .ok (.iconst 0, 1) := by decide +kernel
theorem dX9_isTape_2 : decode cX9_isTape 2 = .ok (.iconst 5, 1) := by decide +kernel
theorem dX9_isTape_3 : decode cX9_isTape 3 = .ok (.invokestatic 93, 3) := by decide +kernel
theorem dX9_isTape_6 : decode cX9_isTape 6 = .ok (.ireturn, 1) := by decide +kernel
theorem dX9_tape_0 : decode cX9_tape 0 = .ok (.iload_n 1, 1) := by decide +kernel
theorem dX9_tape_1 : decode cX9_tape 1 = .ok (.invokestatic 284, 3) := by decide +kernel
theorem dX9_tape_4 : decode cX9_tape 4 = .ok (.ifCond .ne 5, 3) := by decide +kernel
theorem dX9_tape_7 : decode cX9_tape 7 = .ok (.iconst (-1), 1) := by decide +kernel
theorem dX9_tape_8 : decode cX9_tape 8 = .ok (.ireturn, 1) := by decide +kernel
theorem dX9_tape_9 : decode cX9_tape 9 = .ok (.iload_n 2, 1) := by decide +kernel
theorem dX9_tape_10 : decode cX9_tape 10 = .ok (.iconst (-1), 1) := by decide +kernel
theorem dX9_tape_11 : decode cX9_tape 11 = .ok (.iconst 4, 1) := by decide +kernel
theorem dX9_tape_12 : decode cX9_tape 12 = .ok (.invokestatic 93, 3) := by decide +kernel
theorem dX9_tape_15 : decode cX9_tape 15 = .ok (.ifCond .eq 13, 3) := by decide +kernel
theorem dX9_tape_18 : decode cX9_tape 18 = .ok (.iload_n 2, 1) := by decide +kernel
theorem dX9_tape_19 : decode cX9_tape 19 = .ok (.ifCond .lt 12, 3) := by decide +kernel
theorem dX9_tape_22 : decode cX9_tape 22 = .ok (.iload_n 3, 1) := by decide +kernel
theorem dX9_tape_23 : decode cX9_tape 23 = .ok (.bipush 60, 2) := by decide +kernel
theorem dX9_tape_25 : decode cX9_tape 25 = .ok (.if_icmp .le 6, 3) := by decide +kernel
theorem dX9_tape_28 : decode cX9_tape 28 = .ok (.bipush (-2), 2) := by decide +kernel
theorem dX9_tape_30 : decode cX9_tape 30 = .ok (.ireturn, 1) := by decide +kernel
theorem dX9_tape_31 : decode cX9_tape 31 = .ok (.iload_n 2, 1) := by decide +kernel
theorem dX9_tape_32 : decode cX9_tape 32 = .ok (.ifCond .lt 10, 3) := by decide +kernel
theorem dX9_tape_35 : decode cX9_tape 35 = .ok (.iload_n 3, 1) := by decide +kernel
theorem dX9_tape_36 : decode cX9_tape 36 = .ok (.ifCond .ge 6, 3) := by decide +kernel
theorem dX9_tape_39 : decode cX9_tape 39 = .ok (.bipush (-14), 2) := by decide +kernel
theorem dX9_tape_41 : decode cX9_tape 41 = .ok (.ireturn, 1) := by decide +kernel
theorem dX9_tape_42 : decode cX9_tape 42 = .ok (.aload_n 0, 1) := by decide +kernel
theorem dX9_tape_43 : decode cX9_tape 43 = .ok (.getfield 81, 3) := by decide +kernel
theorem dX9_tape_46 : decode cX9_tape 46 = .ok (.iload_n 1, 1) := by decide +kernel
theorem dX9_tape_47 : decode cX9_tape 47 = .ok (.iload_n 2, 1) := by decide +kernel
theorem dX9_tape_48 : decode cX9_tape 48 = .ok (.iastore, 1) := by decide +kernel
theorem dX9_tape_49 : decode cX9_tape 49 = .ok (.aload_n 0, 1) := by decide +kernel
theorem dX9_tape_50 : decode cX9_tape 50 = .ok (.getfield 84, 3) := by decide +kernel
theorem dX9_tape_53 : decode cX9_tape 53 = .ok (.iload_n 1, 1) := by decide +kernel
theorem dX9_tape_54 : decode cX9_tape 54 = .ok (.iload_n 2, 1) := by decide +kernel
theorem dX9_tape_55 : decode cX9_tape 55 = .ok (.ifCond .ge 7, 3) := by decide +kernel
theorem dX9_tape_58 : decode cX9_tape 58 = .ok (.iconst 0, 1) := by decide +kernel
theorem dX9_tape_59 : decode cX9_tape 59 = .ok (.goto 4, 3) := by decide +kernel
theorem dX9_tape_62 : decode cX9_tape 62 = .ok (.iload_n 3, 1) := by decide +kernel
theorem dX9_tape_63 : decode cX9_tape 63 = .ok (.iastore, 1) := by decide +kernel
theorem dX9_tape_64 : decode cX9_tape 64 = .ok (.iconst 0, 1) := by decide +kernel
theorem dX9_tape_65 : decode cX9_tape 65 = .ok (.istore 4, 2) := by decide +kernel
theorem dX9_tape_67 : decode cX9_tape 67 = .ok (.iload 4, 2) := by decide +kernel
theorem dX9_tape_69 : decode cX9_tape 69 = .ok (.bipush 60, 2) := by decide +kernel
theorem dX9_tape_71 : decode cX9_tape 71 = .ok (.if_icmp .ge 22, 3) := by decide +kernel
theorem dX9_tape_74 : decode cX9_tape 74 = .ok (.aload_n 0, 1) := by decide +kernel
theorem dX9_tape_75 : decode cX9_tape 75 = .ok (.getfield 87, 3) := by decide +kernel
theorem dX9_tape_78 : decode cX9_tape 78 = .ok (.bipush 60, 2) := by decide +kernel
theorem dX9_tape_80 : decode cX9_tape 80 = .ok (.iload_n 1, 1) := by decide +kernel
theorem dX9_tape_81 : decode cX9_tape 81 = .ok (.imul, 1) := by decide +kernel
theorem dX9_tape_82 : decode cX9_tape 82 = .ok (.iload 4, 2) := by decide +kernel
theorem dX9_tape_84 : decode cX9_tape 84 = .ok (.iadd, 1) := by decide +kernel
theorem dX9_tape_85 : decode cX9_tape 85 = .ok (.lconst 0, 1) := by decide +kernel
theorem dX9_tape_86 : decode cX9_tape 86 = .ok (.lastore, 1) := by decide +kernel
theorem dX9_tape_87 : decode cX9_tape 87 = .ok (.iinc 4 1, 3) := by decide +kernel
theorem dX9_tape_90 : decode cX9_tape 90 = .ok (.goto (-23), 3) := by decide +kernel
theorem dX9_tape_93 : decode cX9_tape 93 = .ok (.iconst 1, 1) := by decide +kernel
theorem dX9_tape_94 : decode cX9_tape 94 = .ok (.ireturn, 1) := by decide +kernel
theorem dX9_bits_0 : decode cX9_bits 0 = .ok (.iload_n 0, 1) := by decide +kernel
theorem dX9_bits_1 : decode cX9_bits 1 = .ok (.tableswitch 47 0 3 #[31, 36, 41, 45], 31) := by decide +kernel
theorem dX9_bits_32 : decode cX9_bits 32 = .ok (.lload_n 1, 1) := by decide +kernel
theorem dX9_bits_33 : decode cX9_bits 33 = .ok (.l2i, 1) := by decide +kernel
theorem dX9_bits_34 : decode cX9_bits 34 = .ok (.i2b, 1) := by decide +kernel
theorem dX9_bits_35 : decode cX9_bits 35 = .ok (.i2l, 1) := by decide +kernel
theorem dX9_bits_36 : decode cX9_bits 36 = .ok (.lreturn, 1) := by decide +kernel
theorem dX9_bits_37 : decode cX9_bits 37 = .ok (.lload_n 1, 1) := by decide +kernel
theorem dX9_bits_38 : decode cX9_bits 38 = .ok (.l2i, 1) := by decide +kernel
theorem dX9_bits_39 : decode cX9_bits 39 = .ok (.i2s, 1) := by decide +kernel
theorem dX9_bits_40 : decode cX9_bits 40 = .ok (.i2l, 1) := by decide +kernel
theorem dX9_bits_41 : decode cX9_bits 41 = .ok (.lreturn, 1) := by decide +kernel
theorem dX9_bits_42 : decode cX9_bits 42 = .ok (.lload_n 1, 1) := by decide +kernel
theorem dX9_bits_43 : decode cX9_bits 43 = .ok (.l2i, 1) := by decide +kernel
theorem dX9_bits_44 : decode cX9_bits 44 = .ok (.i2l, 1) := by decide +kernel
theorem dX9_bits_45 : decode cX9_bits 45 = .ok (.lreturn, 1) := by decide +kernel
theorem dX9_bits_46 : decode cX9_bits 46 = .ok (.lload_n 1, 1) := by decide +kernel
theorem dX9_bits_47 : decode cX9_bits 47 = .ok (.lreturn, 1) := by decide +kernel
theorem dX9_bits_48 : decode cX9_bits 48 = .ok (.lload_n 1, 1) := by decide +kernel
theorem dX9_bits_49 : decode cX9_bits 49 = .ok (.lconst 0, 1) := by decide +kernel
theorem dX9_bits_50 : decode cX9_bits 50 = .ok (.lcmp, 1) := by decide +kernel
theorem dX9_bits_51 : decode cX9_bits 51 = .ok (.ifCond .eq 7, 3) := by decide +kernel
theorem dX9_bits_54 : decode cX9_bits 54 = .ok (.lconst 1, 1) := by decide +kernel
theorem dX9_bits_55 : decode cX9_bits 55 = .ok (.goto 4, 3) := by decide +kernel
theorem dX9_bits_58 : decode cX9_bits 58 = .ok (.lconst 0, 1) := by decide +kernel
theorem dX9_bits_59 : decode cX9_bits 59 = .ok (.lreturn, 1) := by decide +kernel
theorem dX9_item_0 : decode cX9_item 0 = .ok (.iload_n 1, 1) := by decide +kernel
theorem dX9_item_1 : decode cX9_item 1 = .ok (.invokestatic 284, 3) := by decide +kernel
theorem dX9_item_4 : decode cX9_item 4 = .ok (.ifCond .ne 5, 3) := by decide +kernel
theorem dX9_item_7 : decode cX9_item 7 = .ok (.iconst (-1), 1) := by decide +kernel
theorem dX9_item_8 : decode cX9_item 8 = .ok (.ireturn, 1) := by decide +kernel
theorem dX9_item_9 : decode cX9_item 9 = .ok (.aload_n 0, 1) := by decide +kernel
theorem dX9_item_10 : decode cX9_item 10 = .ok (.getfield 81, 3) := by decide +kernel
theorem dX9_item_13 : decode cX9_item 13 = .ok (.iload_n 1, 1) := by decide +kernel
theorem dX9_item_14 : decode cX9_item 14 = .ok (.iaload, 1) := by decide +kernel
theorem dX9_item_15 : decode cX9_item 15 = .ok (.ifCond .ge 6, 3) := by decide +kernel
theorem dX9_item_18 : decode cX9_item 18 = .ok (.bipush (-11), 2) := by decide +kernel
theorem dX9_item_20 : decode cX9_item 20 = .ok (.ireturn, 1) := by decide +kernel
theorem dX9_item_21 : decode cX9_item 21 = .ok (.iload_n 2, 1) := by decide +kernel
theorem dX9_item_22 : decode cX9_item 22 = .ok (.iconst 0, 1) := by decide +kernel
theorem dX9_item_23 : decode cX9_item 23 = .ok (.aload_n 0, 1) := by decide +kernel
theorem dX9_item_24 : decode cX9_item 24 = .ok (.getfield 84, 3) := by decide +kernel
theorem dX9_item_27 : decode cX9_item 27 = .ok (.iload_n 1, 1) := by decide +kernel
theorem dX9_item_28 : decode cX9_item 28 = .ok (.iaload, 1) := by decide +kernel
theorem dX9_item_29 : decode cX9_item 29 = .ok (.iconst 1, 1) := by decide +kernel
theorem dX9_item_30 : decode cX9_item 30 = .ok (.isub, 1) := by decide +kernel
theorem dX9_item_31 : decode cX9_item 31 = .ok (.invokestatic 93, 3) := by decide +kernel
theorem dX9_item_34 : decode cX9_item 34 = .ok (.ifCond .ne 6, 3) := by decide +kernel
theorem dX9_item_37 : decode cX9_item 37 = .ok (.bipush (-13), 2) := by decide +kernel
theorem dX9_item_39 : decode cX9_item 39 = .ok (.ireturn, 1) := by decide +kernel
theorem dX9_item_40 : decode cX9_item 40 = .ok (.aload_n 0, 1) := by decide +kernel
theorem dX9_item_41 : decode cX9_item 41 = .ok (.getfield 87, 3) := by decide +kernel
theorem dX9_item_44 : decode cX9_item 44 = .ok (.bipush 60, 2) := by decide +kernel
theorem dX9_item_46 : decode cX9_item 46 = .ok (.iload_n 1, 1) := by decide +kernel
theorem dX9_item_47 : decode cX9_item 47 = .ok (.imul, 1) := by decide +kernel
theorem dX9_item_48 : decode cX9_item 48 = .ok (.iload_n 2, 1) := by decide +kernel
theorem dX9_item_49 : decode cX9_item 49 = .ok (.iadd, 1) := by decide +kernel
theorem dX9_item_50 : decode cX9_item 50 = .ok (.aload_n 0, 1) := by decide +kernel
theorem dX9_item_51 : decode cX9_item 51 = .ok (.getfield 81, 3) := by decide +kernel
theorem dX9_item_54 : decode cX9_item 54 = .ok (.iload_n 1, 1) := by decide +kernel
theorem dX9_item_55 : decode cX9_item 55 = .ok (.iaload, 1) := by decide +kernel
theorem dX9_item_56 : decode cX9_item 56 = .ok (.lload_n 3, 1) := by decide +kernel
theorem dX9_item_57 : decode cX9_item 57 = .ok (.invokestatic 291, 3) := by decide +kernel
theorem dX9_item_60 : decode cX9_item 60 = .ok (.lastore, 1) := by decide +kernel
theorem dX9_item_61 : decode cX9_item 61 = .ok (.iconst 1, 1) := by decide +kernel
theorem dX9_item_62 : decode cX9_item 62 = .ok (.ireturn, 1) := by decide +kernel
theorem dX9_peek_0 : decode cX9_peek 0 = .ok (.iload_n 1, 1) := by decide +kernel
theorem dX9_peek_1 : decode cX9_peek 1 = .ok (.invokestatic 284, 3) := by decide +kernel
theorem dX9_peek_4 : decode cX9_peek 4 = .ok (.ifCond .eq 42, 3) := by decide +kernel
theorem dX9_peek_7 : decode cX9_peek 7 = .ok (.aload_n 0, 1) := by decide +kernel
theorem dX9_peek_8 : decode cX9_peek 8 = .ok (.getfield 81, 3) := by decide +kernel
theorem dX9_peek_11 : decode cX9_peek 11 = .ok (.iload_n 1, 1) := by decide +kernel
theorem dX9_peek_12 : decode cX9_peek 12 = .ok (.iaload, 1) := by decide +kernel
theorem dX9_peek_13 : decode cX9_peek 13 = .ok (.ifCond .lt 33, 3) := by decide +kernel
theorem dX9_peek_16 : decode cX9_peek 16 = .ok (.iload_n 2, 1) := by decide +kernel
theorem dX9_peek_17 : decode cX9_peek 17 = .ok (.iconst 0, 1) := by decide +kernel
theorem dX9_peek_18 : decode cX9_peek 18 = .ok (.aload_n 0, 1) := by decide +kernel
theorem dX9_peek_19 : decode cX9_peek 19 = .ok (.getfield 84, 3) := by decide +kernel
theorem dX9_peek_22 : decode cX9_peek 22 = .ok (.iload_n 1, 1) := by decide +kernel
theorem dX9_peek_23 : decode cX9_peek 23 = .ok (.iaload, 1) := by decide +kernel
theorem dX9_peek_24 : decode cX9_peek 24 = .ok (.iconst 1, 1) := by decide +kernel
theorem dX9_peek_25 : decode cX9_peek 25 = .ok (.isub, 1) := by decide +kernel
theorem dX9_peek_26 : decode cX9_peek 26 = .ok (.invokestatic 93, 3) := by decide +kernel
theorem dX9_peek_29 : decode cX9_peek 29 = .ok (.ifCond .eq 17, 3) := by decide +kernel
theorem dX9_peek_32 : decode cX9_peek 32 = .ok (.aload_n 0, 1) := by decide +kernel
theorem dX9_peek_33 : decode cX9_peek 33 = .ok (.getfield 87, 3) := by decide +kernel
theorem dX9_peek_36 : decode cX9_peek 36 = .ok (.bipush 60, 2) := by decide +kernel
theorem dX9_peek_38 : decode cX9_peek 38 = .ok (.iload_n 1, 1) := by decide +kernel
theorem dX9_peek_39 : decode cX9_peek 39 = .ok (.imul, 1) := by decide +kernel
theorem dX9_peek_40 : decode cX9_peek 40 = .ok (.iload_n 2, 1) := by decide +kernel
theorem dX9_peek_41 : decode cX9_peek 41 = .ok (.iadd, 1) := by decide +kernel
theorem dX9_peek_42 : decode cX9_peek 42 = .ok (.laload, 1) := by decide +kernel
theorem dX9_peek_43 : decode cX9_peek 43 = .ok (.goto 6, 3) := by decide +kernel
theorem dX9_peek_46 : decode cX9_peek 46 = .ok (.ldc2_w 241, 3) := by decide +kernel
theorem dX9_peek_49 : decode cX9_peek 49 = .ok (.lreturn, 1) := by decide +kernel
theorem dX9_shift_0 : decode cX9_shift 0 = .ok (.iload_n 1, 1) := by decide +kernel
theorem dX9_shift_1 : decode cX9_shift 1 = .ok (.invokestatic 284, 3) := by decide +kernel
theorem dX9_shift_4 : decode cX9_shift 4 = .ok (.ifCond .eq 10, 3) := by decide +kernel
theorem dX9_shift_7 : decode cX9_shift 7 = .ok (.iload_n 3, 1) := by decide +kernel
theorem dX9_shift_8 : decode cX9_shift 8 = .ok (.invokestatic 284, 3) := by decide +kernel
theorem dX9_shift_11 : decode cX9_shift 11 = .ok (.ifCond .ne 5, 3) := by decide +kernel
theorem dX9_shift_14 : decode cX9_shift 14 = .ok (.iconst (-1), 1) := by decide +kernel
theorem dX9_shift_15 : decode cX9_shift 15 = .ok (.ireturn, 1) := by decide +kernel
theorem dX9_shift_16 : decode cX9_shift 16 = .ok (.aload_n 0, 1) := by decide +kernel
theorem dX9_shift_17 : decode cX9_shift 17 = .ok (.getfield 81, 3) := by decide +kernel
theorem dX9_shift_20 : decode cX9_shift 20 = .ok (.iload_n 1, 1) := by decide +kernel
theorem dX9_shift_21 : decode cX9_shift 21 = .ok (.iaload, 1) := by decide +kernel
theorem dX9_shift_22 : decode cX9_shift 22 = .ok (.ifCond .lt 12, 3) := by decide +kernel
theorem dX9_shift_25 : decode cX9_shift 25 = .ok (.aload_n 0, 1) := by decide +kernel
theorem dX9_shift_26 : decode cX9_shift 26 = .ok (.getfield 81, 3) := by decide +kernel
theorem dX9_shift_29 : decode cX9_shift 29 = .ok (.iload_n 3, 1) := by decide +kernel
theorem dX9_shift_30 : decode cX9_shift 30 = .ok (.iaload, 1) := by decide +kernel
theorem dX9_shift_31 : decode cX9_shift 31 = .ok (.ifCond .ge 6, 3) := by decide +kernel
theorem dX9_shift_34 : decode cX9_shift 34 = .ok (.bipush (-11), 2) := by decide +kernel
theorem dX9_shift_36 : decode cX9_shift 36 = .ok (.ireturn, 1) := by decide +kernel
theorem dX9_shift_37 : decode cX9_shift 37 = .ok (.aload_n 0, 1) := by decide +kernel
theorem dX9_shift_38 : decode cX9_shift 38 = .ok (.getfield 81, 3) := by decide +kernel
theorem dX9_shift_41 : decode cX9_shift 41 = .ok (.iload_n 1, 1) := by decide +kernel
theorem dX9_shift_42 : decode cX9_shift 42 = .ok (.iaload, 1) := by decide +kernel
theorem dX9_shift_43 : decode cX9_shift 43 = .ok (.aload_n 0, 1) := by decide +kernel
theorem dX9_shift_44 : decode cX9_shift 44 = .ok (.getfield 81, 3) := by decide +kernel
theorem dX9_shift_47 : decode cX9_shift 47 = .ok (.iload_n 3, 1) := by decide +kernel
theorem dX9_shift_48 : decode cX9_shift 48 = .ok (.iaload, 1) := by decide +kernel
theorem dX9_shift_49 : decode cX9_shift 49 = .ok (.if_icmp .eq 6, 3) := by decide +kernel
theorem dX9_shift_52 : decode cX9_shift 52 = .ok (.bipush (-12), 2) := by decide +kernel
theorem dX9_shift_54 : decode cX9_shift 54 = .ok (.ireturn, 1) := by decide +kernel
theorem dX9_shift_55 : decode cX9_shift 55 = .ok (.iload 5, 2) := by decide +kernel
theorem dX9_shift_57 : decode cX9_shift 57 = .ok (.ifCond .lt 47, 3) := by decide +kernel
theorem dX9_shift_60 : decode cX9_shift 60 = .ok (.iload_n 2, 1) := by decide +kernel
theorem dX9_shift_61 : decode cX9_shift 61 = .ok (.ifCond .lt 43, 3) := by decide +kernel
theorem dX9_shift_64 : decode cX9_shift 64 = .ok (.iload 4, 2) := by decide +kernel
theorem dX9_shift_66 : decode cX9_shift 66 = .ok (.ifCond .lt 38, 3) := by decide +kernel
theorem dX9_shift_69 : decode cX9_shift 69 = .ok (.iload_n 2, 1) := by decide +kernel
theorem dX9_shift_70 : decode cX9_shift 70 = .ok (.i2l, 1) := by decide +kernel
theorem dX9_shift_71 : decode cX9_shift 71 = .ok (.iload 5, 2) := by decide +kernel
theorem dX9_shift_73 : decode cX9_shift 73 = .ok (.i2l, 1) := by decide +kernel
theorem dX9_shift_74 : decode cX9_shift 74 = .ok (.ladd, 1) := by decide +kernel
theorem dX9_shift_75 : decode cX9_shift 75 = .ok (.aload_n 0, 1) := by decide +kernel
theorem dX9_shift_76 : decode cX9_shift 76 = .ok (.getfield 84, 3) := by decide +kernel
theorem dX9_shift_79 : decode cX9_shift 79 = .ok (.iload_n 1, 1) := by decide +kernel
theorem dX9_shift_80 : decode cX9_shift 80 = .ok (.iaload, 1) := by decide +kernel
theorem dX9_shift_81 : decode cX9_shift 81 = .ok (.i2l, 1) := by decide +kernel
theorem dX9_shift_82 : decode cX9_shift 82 = .ok (.lcmp, 1) := by decide +kernel
theorem dX9_shift_83 : decode cX9_shift 83 = .ok (.ifCond .gt 21, 3) := by decide +kernel
theorem dX9_shift_86 : decode cX9_shift 86 = .ok (.iload 4, 2) := by decide +kernel
theorem dX9_shift_88 : decode cX9_shift 88 = .ok (.i2l, 1) := by decide +kernel
theorem dX9_shift_89 : decode cX9_shift 89 = .ok (.iload 5, 2) := by decide +kernel
theorem dX9_shift_91 : decode cX9_shift 91 = .ok (.i2l, 1) := by decide +kernel
theorem dX9_shift_92 : decode cX9_shift 92 = .ok (.ladd, 1) := by decide +kernel
theorem dX9_shift_93 : decode cX9_shift 93 = .ok (.aload_n 0, 1) := by decide +kernel
theorem dX9_shift_94 : decode cX9_shift 94 = .ok (.getfield 84, 3) := by decide +kernel
theorem dX9_shift_97 : decode cX9_shift 97 = .ok (.iload_n 3, 1) := by decide +kernel
theorem dX9_shift_98 : decode cX9_shift 98 = .ok (.iaload, 1) := by decide +kernel
theorem dX9_shift_99 : decode cX9_shift 99 = .ok (.i2l, 1) := by decide +kernel
theorem dX9_shift_100 : decode cX9_shift 100 = .ok (.lcmp, 1) := by decide +kernel
theorem dX9_shift_101 : decode cX9_shift 101 = .ok (.ifCond .le 6, 3) := by decide +kernel
theorem dX9_shift_104 : decode cX9_shift 104 = .ok (.bipush (-13), 2) := by decide +kernel
theorem dX9_shift_106 : decode cX9_shift 106 = .ok (.ireturn, 1) := by decide +kernel
theorem dX9_shift_107 : decode cX9_shift 107 = .ok (.iload_n 1, 1) := by decide +kernel
theorem dX9_shift_108 : decode cX9_shift 108 = .ok (.iload_n 3, 1) := by decide +kernel
theorem dX9_shift_109 : decode cX9_shift 109 = .ok (.if_icmp .ne 58, 3) := by decide +kernel
theorem dX9_shift_112 : decode cX9_shift 112 = .ok (.iload_n 2, 1) := by decide +kernel
theorem dX9_shift_113 : decode cX9_shift 113 = .ok (.iload 4, 2) := by decide +kernel
theorem dX9_shift_115 : decode cX9_shift 115 = .ok (.if_icmp .ge 52, 3) := by decide +kernel
theorem dX9_shift_118 : decode cX9_shift 118 = .ok (.iload 5, 2) := by decide +kernel
theorem dX9_shift_120 : decode cX9_shift 120 = .ok (.iconst 1, 1) := by decide +kernel
theorem dX9_shift_121 : decode cX9_shift 121 = .ok (.isub, 1) := by decide +kernel
theorem dX9_shift_122 : decode cX9_shift 122 = .ok (.istore 6, 2) := by decide +kernel
theorem dX9_shift_124 : decode cX9_shift 124 = .ok (.iload 6, 2) := by decide +kernel
theorem dX9_shift_126 : decode cX9_shift 126 = .ok (.ifCond .lt 38, 3) := by decide +kernel
theorem dX9_shift_129 : decode cX9_shift 129 = .ok (.aload_n 0, 1) := by decide +kernel
theorem dX9_shift_130 : decode cX9_shift 130 = .ok (.getfield 87, 3) := by decide +kernel
theorem dX9_shift_133 : decode cX9_shift 133 = .ok (.bipush 60, 2) := by decide +kernel
theorem dX9_shift_135 : decode cX9_shift 135 = .ok (.iload_n 3, 1) := by decide +kernel
theorem dX9_shift_136 : decode cX9_shift 136 = .ok (.imul, 1) := by decide +kernel
theorem dX9_shift_137 : decode cX9_shift 137 = .ok (.iload 4, 2) := by decide +kernel
theorem dX9_shift_139 : decode cX9_shift 139 = .ok (.iadd, 1) := by decide +kernel
theorem dX9_shift_140 : decode cX9_shift 140 = .ok (.iload 6, 2) := by decide +kernel
theorem dX9_shift_142 : decode cX9_shift 142 = .ok (.iadd, 1) := by decide +kernel
theorem dX9_shift_143 : decode cX9_shift 143 = .ok (.aload_n 0, 1) := by decide +kernel
theorem dX9_shift_144 : decode cX9_shift 144 = .ok (.getfield 87, 3) := by decide +kernel
theorem dX9_shift_147 : decode cX9_shift 147 = .ok (.bipush 60, 2) := by decide +kernel
theorem dX9_shift_149 : decode cX9_shift 149 = .ok (.iload_n 1, 1) := by decide +kernel
theorem dX9_shift_150 : decode cX9_shift 150 = .ok (.imul, 1) := by decide +kernel
theorem dX9_shift_151 : decode cX9_shift 151 = .ok (.iload_n 2, 1) := by decide +kernel
theorem dX9_shift_152 : decode cX9_shift 152 = .ok (.iadd, 1) := by decide +kernel
theorem dX9_shift_153 : decode cX9_shift 153 = .ok (.iload 6, 2) := by decide +kernel
theorem dX9_shift_155 : decode cX9_shift 155 = .ok (.iadd, 1) := by decide +kernel
theorem dX9_shift_156 : decode cX9_shift 156 = .ok (.laload, 1) := by decide +kernel
theorem dX9_shift_157 : decode cX9_shift 157 = .ok (.lastore, 1) := by decide +kernel
theorem dX9_shift_158 : decode cX9_shift 158 = .ok (.iinc 6 (-1), 3) := by decide +kernel
theorem dX9_shift_161 : decode cX9_shift 161 = .ok (.goto (-37), 3) := by decide +kernel
theorem dX9_shift_164 : decode cX9_shift 164 = .ok (.goto 48, 3) := by decide +kernel
theorem dX9_shift_167 : decode cX9_shift 167 = .ok (.iconst 0, 1) := by decide +kernel
theorem dX9_shift_168 : decode cX9_shift 168 = .ok (.istore 6, 2) := by decide +kernel
theorem dX9_shift_170 : decode cX9_shift 170 = .ok (.iload 6, 2) := by decide +kernel
theorem dX9_shift_172 : decode cX9_shift 172 = .ok (.iload 5, 2) := by decide +kernel
theorem dX9_shift_174 : decode cX9_shift 174 = .ok (.if_icmp .ge 38, 3) := by decide +kernel
theorem dX9_shift_177 : decode cX9_shift 177 = .ok (.aload_n 0, 1) := by decide +kernel
theorem dX9_shift_178 : decode cX9_shift 178 = .ok (.getfield 87, 3) := by decide +kernel
theorem dX9_shift_181 : decode cX9_shift 181 = .ok (.bipush 60, 2) := by decide +kernel
theorem dX9_shift_183 : decode cX9_shift 183 = .ok (.iload_n 3, 1) := by decide +kernel
theorem dX9_shift_184 : decode cX9_shift 184 = .ok (.imul, 1) := by decide +kernel
theorem dX9_shift_185 : decode cX9_shift 185 = .ok (.iload 4, 2) := by decide +kernel
theorem dX9_shift_187 : decode cX9_shift 187 = .ok (.iadd, 1) := by decide +kernel
theorem dX9_shift_188 : decode cX9_shift 188 = .ok (.iload 6, 2) := by decide +kernel
theorem dX9_shift_190 : decode cX9_shift 190 = .ok (.iadd, 1) := by decide +kernel
theorem dX9_shift_191 : decode cX9_shift 191 = .ok (.aload_n 0, 1) := by decide +kernel
theorem dX9_shift_192 : decode cX9_shift 192 = .ok (.getfield 87, 3) := by decide +kernel
theorem dX9_shift_195 : decode cX9_shift 195 = .ok (.bipush 60, 2) := by decide +kernel
theorem dX9_shift_197 : decode cX9_shift 197 = .ok (.iload_n 1, 1) := by decide +kernel
theorem dX9_shift_198 : decode cX9_shift 198 = .ok (.imul, 1) := by decide +kernel
theorem dX9_shift_199 : decode cX9_shift 199 = .ok (.iload_n 2, 1) := by decide +kernel
theorem dX9_shift_200 : decode cX9_shift 200 = .ok (.iadd, 1) := by decide +kernel
theorem dX9_shift_201 : decode cX9_shift 201 = .ok (.iload 6, 2) := by decide +kernel
theorem dX9_shift_203 : decode cX9_shift 203 = .ok (.iadd, 1) := by decide +kernel
theorem dX9_shift_204 : decode cX9_shift 204 = .ok (.laload, 1) := by decide +kernel
theorem dX9_shift_205 : decode cX9_shift 205 = .ok (.lastore, 1) := by decide +kernel
theorem dX9_shift_206 : decode cX9_shift 206 = .ok (.iinc 6 1, 3) := by decide +kernel
theorem dX9_shift_209 : decode cX9_shift 209 = .ok (.goto (-39), 3) := by decide +kernel
theorem dX9_shift_212 : decode cX9_shift 212 = .ok (.iload 5, 2) := by decide +kernel
theorem dX9_shift_214 : decode cX9_shift 214 = .ok (.ireturn, 1) := by decide +kernel
end
section
theorem dX0_init_0 : decode cX0_init 0 = .ok (.aload_n 0, 1) := by decide +kernel
theorem dX0_init_1 : decode cX0_init 1 = .ok (.invokespecial 3, 3) := by decide +kernel
theorem dX0_init_4 : decode cX0_init 4 = .ok (.aload_n 0, 1) := by decide +kernel
theorem dX0_init_5 : decode cX0_init 5 = .ok (.bipush 64, 2) := by decide +kernel
theorem dX0_init_7 : decode cX0_init 7 = .ok (.newarray .long, 2) := by decide +kernel
theorem dX0_init_9 : decode cX0_init 9 = .ok (.putfield 9, 3) := by decide +kernel
theorem dX0_init_12 : decode cX0_init 12 = .ok (.return_, 1) := by decide +kernel
theorem dX0_below_0 : decode cX0_below 0 = .ok (.lconst 1, 1) := by decide +kernel
theorem dX0_below_1 : decode cX0_below 1 = .ok (.lstore_n 2, 1) := by decide +kernel
theorem dX0_below_2 : decode cX0_below 2 = .ok (.iconst 0, 1) := by decide +kernel
theorem dX0_below_3 : decode cX0_below 3 = .ok (.istore 4, 2) := by decide +kernel
theorem dX0_below_5 : decode cX0_below 5 = .ok (.iload 4, 2) := by decide +kernel
theorem dX0_below_7 : decode cX0_below 7 = .ok (.aload_n 1, 1) := by decide +kernel
theorem dX0_below_8 : decode cX0_below 8 = .ok (.getfield 15, 3) := by decide +kernel
theorem dX0_below_11 : decode cX0_below 11 = .ok (.aload_n 1, 1) := by decide +kernel
theorem dX0_below_12 : decode cX0_below 12 = .ok (.getfield 21, 3) := by decide +kernel
theorem dX0_below_15 : decode cX0_below 15 = .ok (.iadd, 1) := by decide +kernel
theorem dX0_below_16 : decode cX0_below 16 = .ok (.if_icmp .ge 15, 3) := by decide +kernel
theorem dX0_below_19 : decode cX0_below 19 = .ok (.lload_n 2, 1) := by decide +kernel
theorem dX0_below_20 : decode cX0_below 20 = .ok (.ldc2_w 24, 3) := by decide +kernel
theorem dX0_below_23 : decode cX0_below 23 = .ok (.lmul, 1) := by decide +kernel
theorem dX0_below_24 : decode cX0_below 24 = .ok (.lstore_n 2, 1) := by decide +kernel
theorem dX0_below_25 : decode cX0_below 25 = .ok (.iinc 4 1, 3) := by decide +kernel
theorem dX0_below_28 : decode cX0_below 28 = .ok (.goto (-23), 3) := by decide +kernel
theorem dX0_below_31 : decode cX0_below 31 = .ok (.lload_n 2, 1) := by decide +kernel
theorem dX0_below_32 : decode cX0_below 32 = .ok (.lreturn, 1) := by decide +kernel
theorem dX0_above_0 : decode cX0_above 0 = .ok (.iconst 1, 1) := by decide +kernel
theorem dX0_above_1 : decode cX0_above 1 = .ok (.aload_n 1, 1) := by decide +kernel
theorem dX0_above_2 : decode cX0_above 2 = .ok (.getfield 15, 3) := by decide +kernel
theorem dX0_above_5 : decode cX0_above 5 = .ok (.ishl, 1) := by decide +kernel
theorem dX0_above_6 : decode cX0_above 6 = .ok (.istore 6, 2) := by decide +kernel
theorem dX0_above_8 : decode cX0_above 8 = .ok (.iconst 0, 1) := by decide +kernel
theorem dX0_above_9 : decode cX0_above 9 = .ok (.istore 7, 2) := by decide +kernel
theorem dX0_above_11 : decode cX0_above 11 = .ok (.iload 7, 2) := by decide +kernel
theorem dX0_above_13 : decode cX0_above 13 = .ok (.iload 6, 2) := by decide +kernel
theorem dX0_above_15 : decode cX0_above 15 = .ok (.if_icmp .ge 17, 3) := by decide +kernel
theorem dX0_above_18 : decode cX0_above 18 = .ok (.aload_n 0, 1) := by decide +kernel
theorem dX0_above_19 : decode cX0_above 19 = .ok (.getfield 9, 3) := by decide +kernel
theorem dX0_above_22 : decode cX0_above 22 = .ok (.iload 7, 2) := by decide +kernel
theorem dX0_above_24 : decode cX0_above 24 = .ok (.lconst 0, 1) := by decide +kernel
theorem dX0_above_25 : decode cX0_above 25 = .ok (.lastore, 1) := by decide +kernel
theorem dX0_above_26 : decode cX0_above 26 = .ok (.iinc 7 1, 3) := by decide +kernel
theorem dX0_above_29 : decode cX0_above 29 = .ok (.goto (-18), 3) := by decide +kernel
theorem dX0_above_32 : decode cX0_above 32 = .ok (.aload_n 0, 1) := by decide +kernel
theorem dX0_above_33 : decode cX0_above 33 = .ok (.getfield 9, 3) := by decide +kernel
theorem dX0_above_36 : decode cX0_above 36 = .ok (.iconst 0, 1) := by decide +kernel
theorem dX0_above_37 : decode cX0_above 37 = .ok (.lconst 1, 1) := by decide +kernel
theorem dX0_above_38 : decode cX0_above 38 = .ok (.lastore, 1) := by decide +kernel
theorem dX0_above_39 : decode cX0_above 39 = .ok (.iconst 0, 1) := by decide +kernel
theorem dX0_above_40 : decode cX0_above 40 = .ok (.istore 7, 2) := by decide +kernel
theorem dX0_above_42 : decode cX0_above 42 = .ok (.iload 7, 2) := by decide +kernel
theorem dX0_above_44 : decode cX0_above 44 = .ok (.aload_n 1, 1) := by decide +kernel
theorem dX0_above_45 : decode cX0_above 45 = .ok (.getfield 15, 3) := by decide +kernel
theorem dX0_above_48 : decode cX0_above 48 = .ok (.if_icmp .ge 38, 3) := by decide +kernel
theorem dX0_above_51 : decode cX0_above 51 = .ok (.aload_n 0, 1) := by decide +kernel
theorem dX0_above_52 : decode cX0_above 52 = .ok (.iconst 1, 1) := by decide +kernel
theorem dX0_above_53 : decode cX0_above 53 = .ok (.iload 7, 2) := by decide +kernel
theorem dX0_above_55 : decode cX0_above 55 = .ok (.ishl, 1) := by decide +kernel
theorem dX0_above_56 : decode cX0_above 56 = .ok (.iload 7, 2) := by decide +kernel
theorem dX0_above_58 : decode cX0_above 58 = .ok (.iload 4, 2) := by decide +kernel
theorem dX0_above_60 : decode cX0_above 60 = .ok (.if_icmp .ne 8, 3) := by decide +kernel
theorem dX0_above_63 : decode cX0_above 63 = .ok (.iload 5, 2) := by decide +kernel
theorem dX0_above_65 : decode cX0_above 65 = .ok (.goto 10, 3) := by decide +kernel
theorem dX0_above_68 : decode cX0_above 68 = .ok (.aload_n 1, 1) := by decide +kernel
theorem dX0_above_69 : decode cX0_above 69 = .ok (.getfield 26, 3) := by decide +kernel
theorem dX0_above_72 : decode cX0_above 72 = .ok (.iload 7, 2) := by decide +kernel
theorem dX0_above_74 : decode cX0_above 74 = .ok (.iaload, 1) := by decide +kernel
theorem dX0_above_75 : decode cX0_above 75 = .ok (.iload 6, 2) := by decide +kernel
theorem dX0_above_77 : decode cX0_above 77 = .ok (.invokevirtual 30, 3) := by decide +kernel
theorem dX0_above_80 : decode cX0_above 80 = .ok (.iinc 7 1, 3) := by decide +kernel
theorem dX0_above_83 : decode cX0_above 83 = .ok (.goto (-41), 3) := by decide +kernel
theorem dX0_above_86 : decode cX0_above 86 = .ok (.iconst 0, 1) := by decide +kernel
theorem dX0_above_87 : decode cX0_above 87 = .ok (.istore 7, 2) := by decide +kernel
theorem dX0_above_89 : decode cX0_above 89 = .ok (.iload 7, 2) := by decide +kernel
theorem dX0_above_91 : decode cX0_above 91 = .ok (.aload_n 1, 1) := by decide +kernel
theorem dX0_above_92 : decode cX0_above 92 = .ok (.getfield 21, 3) := by decide +kernel
theorem dX0_above_95 : decode cX0_above 95 = .ok (.if_icmp .ge 56, 3) := by decide +kernel
theorem dX0_above_98 : decode cX0_above 98 = .ok (.bipush 6, 2) := by decide +kernel
theorem dX0_above_100 : decode cX0_above 100 = .ok (.iload 7, 2) := by decide +kernel
theorem dX0_above_102 : decode cX0_above 102 = .ok (.iadd, 1) := by decide +kernel
theorem dX0_above_103 : decode cX0_above 103 = .ok (.iload 4, 2) := by decide +kernel
theorem dX0_above_105 : decode cX0_above 105 = .ok (.if_icmp .ne 7, 3) := by decide +kernel
theorem dX0_above_108 : decode cX0_above 108 = .ok (.iconst 1, 1) := by decide +kernel
theorem dX0_above_109 : decode cX0_above 109 = .ok (.goto 4, 3) := by decide +kernel
theorem dX0_above_112 : decode cX0_above 112 = .ok (.iconst 0, 1) := by decide +kernel
theorem dX0_above_113 : decode cX0_above 113 = .ok (.istore 8, 2) := by decide +kernel
theorem dX0_above_115 : decode cX0_above 115 = .ok (.aload_n 0, 1) := by decide +kernel
theorem dX0_above_116 : decode cX0_above 116 = .ok (.aload_n 1, 1) := by decide +kernel
theorem dX0_above_117 : decode cX0_above 117 = .ok (.getfield 34, 3) := by decide +kernel
theorem dX0_above_120 : decode cX0_above 120 = .ok (.iload 7, 2) := by decide +kernel
theorem dX0_above_122 : decode cX0_above 122 = .ok (.iaload, 1) := by decide +kernel
theorem dX0_above_123 : decode cX0_above 123 = .ok (.iload 8, 2) := by decide +kernel
theorem dX0_above_125 : decode cX0_above 125 = .ok (.ifCond .eq 8, 3) := by decide +kernel
theorem dX0_above_128 : decode cX0_above 128 = .ok (.iload 5, 2) := by decide +kernel
theorem dX0_above_130 : decode cX0_above 130 = .ok (.goto 10, 3) := by decide +kernel
theorem dX0_above_133 : decode cX0_above 133 = .ok (.aload_n 1, 1) := by decide +kernel
theorem dX0_above_134 : decode cX0_above 134 = .ok (.getfield 37, 3) := by decide +kernel
theorem dX0_above_137 : decode cX0_above 137 = .ok (.iload 7, 2) := by decide +kernel
theorem dX0_above_139 : decode cX0_above 139 = .ok (.iaload, 1) := by decide +kernel
theorem dX0_above_140 : decode cX0_above 140 = .ok (.iload 6, 2) := by decide +kernel
theorem dX0_above_142 : decode cX0_above 142 = .ok (.invokevirtual 30, 3) := by decide +kernel
theorem dX0_above_145 : decode cX0_above 145 = .ok (.iinc 7 1, 3) := by decide +kernel
theorem dX0_above_148 : decode cX0_above 148 = .ok (.goto (-59), 3) := by decide +kernel
theorem dX0_above_151 : decode cX0_above 151 = .ok (.aload_n 0, 1) := by decide +kernel
theorem dX0_above_152 : decode cX0_above 152 = .ok (.lload_n 2, 1) := by decide +kernel
theorem dX0_above_153 : decode cX0_above 153 = .ok (.iload 6, 2) := by decide +kernel
theorem dX0_above_155 : decode cX0_above 155 = .ok (.invokevirtual 40, 3) := by decide +kernel
theorem dX0_above_158 : decode cX0_above 158 = .ok (.lreturn, 1) := by decide +kernel
theorem dX0_spread_0 : decode cX0_spread 0 = .ok (.iload_n 3, 1) := by decide +kernel
theorem dX0_spread_1 : decode cX0_spread 1 = .ok (.iconst 1, 1) := by decide +kernel
theorem dX0_spread_2 : decode cX0_spread 2 = .ok (.isub, 1) := by decide +kernel
theorem dX0_spread_3 : decode cX0_spread 3 = .ok (.istore 4, 2) := by decide +kernel
theorem dX0_spread_5 : decode cX0_spread 5 = .ok (.iload 4, 2) := by decide +kernel
theorem dX0_spread_7 : decode cX0_spread 7 = .ok (.ifCond .lt 66, 3) := by decide +kernel
theorem dX0_spread_10 : decode cX0_spread 10 = .ok (.aload_n 0, 1) := by decide +kernel
theorem dX0_spread_11 : decode cX0_spread 11 = .ok (.getfield 9, 3) := by decide +kernel
theorem dX0_spread_14 : decode cX0_spread 14 = .ok (.iload 4, 2) := by decide +kernel
theorem dX0_spread_16 : decode cX0_spread 16 = .ok (.laload, 1) := by decide +kernel
theorem dX0_spread_17 : decode cX0_spread 17 = .ok (.iload_n 2, 1) := by decide +kernel
theorem dX0_spread_18 : decode cX0_spread 18 = .ok (.i2l, 1) := by decide +kernel
theorem dX0_spread_19 : decode cX0_spread 19 = .ok (.lmul, 1) := by decide +kernel
theorem dX0_spread_20 : decode cX0_spread 20 = .ok (.lstore 5, 2) := by decide +kernel
theorem dX0_spread_22 : decode cX0_spread 22 = .ok (.aload_n 0, 1) := by decide +kernel
theorem dX0_spread_23 : decode cX0_spread 23 = .ok (.getfield 9, 3) := by decide +kernel
theorem dX0_spread_26 : decode cX0_spread 26 = .ok (.iload 4, 2) := by decide +kernel
theorem dX0_spread_28 : decode cX0_spread 28 = .ok (.aload_n 0, 1) := by decide +kernel
theorem dX0_spread_29 : decode cX0_spread 29 = .ok (.getfield 9, 3) := by decide +kernel
theorem dX0_spread_32 : decode cX0_spread 32 = .ok (.iload 4, 2) := by decide +kernel
theorem dX0_spread_34 : decode cX0_spread 34 = .ok (.laload, 1) := by decide +kernel
theorem dX0_spread_35 : decode cX0_spread 35 = .ok (.ldc2_w 24, 3) := by decide +kernel
theorem dX0_spread_38 : decode cX0_spread 38 = .ok (.lmul, 1) := by decide +kernel
theorem dX0_spread_39 : decode cX0_spread 39 = .ok (.lload 5, 2) := by decide +kernel
theorem dX0_spread_41 : decode cX0_spread 41 = .ok (.lsub, 1) := by decide +kernel
theorem dX0_spread_42 : decode cX0_spread 42 = .ok (.lastore, 1) := by decide +kernel
theorem dX0_spread_43 : decode cX0_spread 43 = .ok (.iload 4, 2) := by decide +kernel
theorem dX0_spread_45 : decode cX0_spread 45 = .ok (.iload_n 1, 1) := by decide +kernel
theorem dX0_spread_46 : decode cX0_spread 46 = .ok (.ior, 1) := by decide +kernel
theorem dX0_spread_47 : decode cX0_spread 47 = .ok (.istore 7, 2) := by decide +kernel
theorem dX0_spread_49 : decode cX0_spread 49 = .ok (.iload 7, 2) := by decide +kernel
theorem dX0_spread_51 : decode cX0_spread 51 = .ok (.iload_n 3, 1) := by decide +kernel
theorem dX0_spread_52 : decode cX0_spread 52 = .ok (.if_icmp .ge 15, 3) := by decide +kernel
theorem dX0_spread_55 : decode cX0_spread 55 = .ok (.aload_n 0, 1) := by decide +kernel
theorem dX0_spread_56 : decode cX0_spread 56 = .ok (.getfield 9, 3) := by decide +kernel
theorem dX0_spread_59 : decode cX0_spread 59 = .ok (.iload 7, 2) := by decide +kernel
theorem dX0_spread_61 : decode cX0_spread 61 = .ok (.dup2, 1) := by decide +kernel
theorem dX0_spread_62 : decode cX0_spread 62 = .ok (.laload, 1) := by decide +kernel
theorem dX0_spread_63 : decode cX0_spread 63 = .ok (.lload 5, 2) := by decide +kernel
theorem dX0_spread_65 : decode cX0_spread 65 = .ok (.ladd, 1) := by decide +kernel
theorem dX0_spread_66 : decode cX0_spread 66 = .ok (.lastore, 1) := by decide +kernel
theorem dX0_spread_67 : decode cX0_spread 67 = .ok (.iinc 4 (-1), 3) := by decide +kernel
theorem dX0_spread_70 : decode cX0_spread 70 = .ok (.goto (-65), 3) := by decide +kernel
theorem dX0_spread_73 : decode cX0_spread 73 = .ok (.return_, 1) := by decide +kernel
theorem dX0_sumOver_0 : decode cX0_sumOver 0 = .ok (.lconst 0, 1) := by decide +kernel
theorem dX0_sumOver_1 : decode cX0_sumOver 1 = .ok (.lstore 4, 2) := by decide +kernel
theorem dX0_sumOver_3 : decode cX0_sumOver 3 = .ok (.iconst 0, 1) := by decide +kernel
theorem dX0_sumOver_4 : decode cX0_sumOver 4 = .ok (.istore 6, 2) := by decide +kernel
theorem dX0_sumOver_6 : decode cX0_sumOver 6 = .ok (.iload 6, 2) := by decide +kernel
theorem dX0_sumOver_8 : decode cX0_sumOver 8 = .ok (.iload_n 3, 1) := by decide +kernel
theorem dX0_sumOver_9 : decode cX0_sumOver 9 = .ok (.if_icmp .ge 30, 3) := by decide +kernel
theorem dX0_sumOver_12 : decode cX0_sumOver 12 = .ok (.lload_n 1, 1) := by decide +kernel
theorem dX0_sumOver_13 : decode cX0_sumOver 13 = .ok (.iload 6, 2) := by decide +kernel
theorem dX0_sumOver_15 : decode cX0_sumOver 15 = .ok (.invokestatic 44, 3) := by decide +kernel
theorem dX0_sumOver_18 : decode cX0_sumOver 18 = .ok (.ifCond .eq 15, 3) := by decide +kernel
theorem dX0_sumOver_21 : decode cX0_sumOver 21 = .ok (.lload 4, 2) := by decide +kernel
theorem dX0_sumOver_23 : decode cX0_sumOver 23 = .ok (.aload_n 0, 1) := by decide +kernel
theorem dX0_sumOver_24 : decode cX0_sumOver 24 = .ok (.getfield 9, 3) := by decide +kernel
theorem dX0_sumOver_27 : decode cX0_sumOver 27 = .ok (.iload 6, 2) := by decide +kernel
theorem dX0_sumOver_29 : decode cX0_sumOver 29 = .ok (.laload, 1) := by decide +kernel
theorem dX0_sumOver_30 : decode cX0_sumOver 30 = .ok (.ladd, 1) := by decide +kernel
theorem dX0_sumOver_31 : decode cX0_sumOver 31 = .ok (.lstore 4, 2) := by decide +kernel
theorem dX0_sumOver_33 : decode cX0_sumOver 33 = .ok (.iinc 6 1, 3) := by decide +kernel
theorem dX0_sumOver_36 : decode cX0_sumOver 36 = .ok (.goto (-30), 3) := by decide +kernel
theorem dX0_sumOver_39 : decode cX0_sumOver 39 = .ok (.lload 4, 2) := by decide +kernel
theorem dX0_sumOver_41 : decode cX0_sumOver 41 = .ok (.lreturn, 1) := by decide +kernel
theorem dX0_weightAbove_0 : decode cX0_weightAbove 0 = .ok (.aload_n 0, 1) := by decide +kernel
theorem dX0_weightAbove_1 : decode cX0_weightAbove 1 = .ok (.aload_n 1, 1) := by decide +kernel
theorem dX0_weightAbove_2 : decode cX0_weightAbove 2 = .ok (.lload_n 2, 1) := by decide +kernel
theorem dX0_weightAbove_3 : decode cX0_weightAbove 3 = .ok (.iload 4, 2) := by decide +kernel
theorem dX0_weightAbove_5 : decode cX0_weightAbove 5 = .ok (.bipush 100, 2) := by decide +kernel
theorem dX0_weightAbove_7 : decode cX0_weightAbove 7 = .ok (.invokevirtual 48, 3) := by decide +kernel
theorem dX0_weightAbove_10 : decode cX0_weightAbove 10 = .ok (.aload_n 0, 1) := by decide +kernel
theorem dX0_weightAbove_11 : decode cX0_weightAbove 11 = .ok (.aload_n 1, 1) := by decide +kernel
theorem dX0_weightAbove_12 : decode cX0_weightAbove 12 = .ok (.lload_n 2, 1) := by decide +kernel
theorem dX0_weightAbove_13 : decode cX0_weightAbove 13 = .ok (.iload 4, 2) := by decide +kernel
theorem dX0_weightAbove_15 : decode cX0_weightAbove 15 = .ok (.iconst 0, 1) := by decide +kernel
theorem dX0_weightAbove_16 : decode cX0_weightAbove 16 = .ok (.invokevirtual 48, 3) := by decide +kernel
theorem dX0_weightAbove_19 : decode cX0_weightAbove 19 = .ok (.lsub, 1) := by decide +kernel
theorem dX0_weightAbove_20 : decode cX0_weightAbove 20 = .ok (.lreturn, 1) := by decide +kernel
theorem dX0_mostOf_0 : decode cX0_mostOf 0 = .ok (.bipush (-5), 2) := by decide +kernel
theorem dX0_mostOf_2 : decode cX0_mostOf 2 = .ok (.istore 4, 2) := by decide +kernel
theorem dX0_mostOf_4 : decode cX0_mostOf 4 = .ok (.ldc2_w 52, 3) := by decide +kernel
theorem dX0_mostOf_7 : decode cX0_mostOf 7 = .ok (.lstore 5, 2) := by decide +kernel
theorem dX0_mostOf_9 : decode cX0_mostOf 9 = .ok (.iconst 0, 1) := by decide +kernel
theorem dX0_mostOf_10 : decode cX0_mostOf 10 = .ok (.istore 7, 2) := by decide +kernel
theorem dX0_mostOf_12 : decode cX0_mostOf 12 = .ok (.iload 7, 2) := by decide +kernel
theorem dX0_mostOf_14 : decode cX0_mostOf 14 = .ok (.aload_n 1, 1) := by decide +kernel
theorem dX0_mostOf_15 : decode cX0_mostOf 15 = .ok (.getfield 15, 3) := by decide +kernel
theorem dX0_mostOf_18 : decode cX0_mostOf 18 = .ok (.if_icmp .ge 35, 3) := by decide +kernel
theorem dX0_mostOf_21 : decode cX0_mostOf 21 = .ok (.aload_n 0, 1) := by decide +kernel
theorem dX0_mostOf_22 : decode cX0_mostOf 22 = .ok (.aload_n 1, 1) := by decide +kernel
theorem dX0_mostOf_23 : decode cX0_mostOf 23 = .ok (.lload_n 2, 1) := by decide +kernel
theorem dX0_mostOf_24 : decode cX0_mostOf 24 = .ok (.iload 7, 2) := by decide +kernel
theorem dX0_mostOf_26 : decode cX0_mostOf 26 = .ok (.invokevirtual 54, 3) := by decide +kernel
theorem dX0_mostOf_29 : decode cX0_mostOf 29 = .ok (.lstore 8, 2) := by decide +kernel
theorem dX0_mostOf_31 : decode cX0_mostOf 31 = .ok (.lload 8, 2) := by decide +kernel
theorem dX0_mostOf_33 : decode cX0_mostOf 33 = .ok (.lload 5, 2) := by decide +kernel
theorem dX0_mostOf_35 : decode cX0_mostOf 35 = .ok (.lcmp, 1) := by decide +kernel
theorem dX0_mostOf_36 : decode cX0_mostOf 36 = .ok (.ifCond .le 11, 3) := by decide +kernel
theorem dX0_mostOf_39 : decode cX0_mostOf 39 = .ok (.lload 8, 2) := by decide +kernel
theorem dX0_mostOf_41 : decode cX0_mostOf 41 = .ok (.lstore 5, 2) := by decide +kernel
theorem dX0_mostOf_43 : decode cX0_mostOf 43 = .ok (.iload 7, 2) := by decide +kernel
theorem dX0_mostOf_45 : decode cX0_mostOf 45 = .ok (.istore 4, 2) := by decide +kernel
theorem dX0_mostOf_47 : decode cX0_mostOf 47 = .ok (.iinc 7 1, 3) := by decide +kernel
theorem dX0_mostOf_50 : decode cX0_mostOf 50 = .ok (.goto (-38), 3) := by decide +kernel
theorem dX0_mostOf_53 : decode cX0_mostOf 53 = .ok (.iload 4, 2) := by decide +kernel
theorem dX0_mostOf_55 : decode cX0_mostOf 55 = .ok (.ireturn, 1) := by decide +kernel
theorem dX1_init_0 : decode cX1_init 0 = .ok (.aload_n 0, 1) := by decide +kernel
theorem dX1_init_1 : decode cX1_init 1 = .ok (.invokespecial 3, 3) := by decide +kernel
theorem dX1_init_4 : decode cX1_init 4 = .ok (.aload_n 0, 1) := by decide +kernel
theorem dX1_init_5 : decode cX1_init 5 = .ok (.bipush 64, 2) := by decide +kernel
theorem dX1_init_7 : decode cX1_init 7 = .ok (.newarray .long, 2) := by decide +kernel
theorem dX1_init_9 : decode cX1_init 9 = .ok (.putfield 11, 3) := by decide +kernel
theorem dX1_init_12 : decode cX1_init 12 = .ok (.aload_n 0, 1) := by decide +kernel
theorem dX1_init_13 : decode cX1_init 13 = .ok (.bipush 64, 2) := by decide +kernel
theorem dX1_init_15 : decode cX1_init 15 = .ok (.newarray .int, 2) := by decide +kernel
theorem dX1_init_17 : decode cX1_init 17 = .ok (.putfield 15, 3) := by decide +kernel
theorem dX1_init_20 : decode cX1_init 20 = .ok (.aload_n 0, 1) := by decide +kernel
theorem dX1_init_21 : decode cX1_init 21 = .ok (.bipush 64, 2) := by decide +kernel
theorem dX1_init_23 : decode cX1_init 23 = .ok (.newarray .int, 2) := by decide +kernel
theorem dX1_init_25 : decode cX1_init 25 = .ok (.putfield 19, 3) := by decide +kernel
theorem dX1_init_28 : decode cX1_init 28 = .ok (.aload_n 0, 1) := by decide +kernel
theorem dX1_init_29 : decode cX1_init 29 = .ok (.bipush 64, 2) := by decide +kernel
theorem dX1_init_31 : decode cX1_init 31 = .ok (.newarray .int, 2) := by decide +kernel
theorem dX1_init_33 : decode cX1_init 33 = .ok (.putfield 22, 3) := by decide +kernel
theorem dX1_init_36 : decode cX1_init 36 = .ok (.return_, 1) := by decide +kernel
theorem dX1_draw_0 : decode cX1_draw 0 = .ok (.aload_n 0, 1) := by decide +kernel
theorem dX1_draw_1 : decode cX1_draw 1 = .ok (.iconst 0, 1) := by decide +kernel
theorem dX1_draw_2 : decode cX1_draw 2 = .ok (.putfield 25, 3) := by decide +kernel
theorem dX1_draw_5 : decode cX1_draw 5 = .ok (.aload_n 0, 1) := by decide +kernel
theorem dX1_draw_6 : decode cX1_draw 6 = .ok (.aload_n 1, 1) := by decide +kernel
theorem dX1_draw_7 : decode cX1_draw 7 = .ok (.lload_n 2, 1) := by decide +kernel
theorem dX1_draw_8 : decode cX1_draw 8 = .ok (.iconst 0, 1) := by decide +kernel
theorem dX1_draw_9 : decode cX1_draw 9 = .ok (.invokevirtual 29, 3) := by decide +kernel
theorem dX1_draw_12 : decode cX1_draw 12 = .ok (.pop, 1) := by decide +kernel
theorem dX1_draw_13 : decode cX1_draw 13 = .ok (.aload_n 0, 1) := by decide +kernel
theorem dX1_draw_14 : decode cX1_draw 14 = .ok (.getfield 25, 3) := by decide +kernel
theorem dX1_draw_17 : decode cX1_draw 17 = .ok (.ireturn, 1) := by decide +kernel
theorem dX1_meet_0 : decode cX1_meet 0 = .ok (.lload_n 2, 1) := by decide +kernel
theorem dX1_meet_1 : decode cX1_meet 1 = .ok (.lconst 0, 1) := by decide +kernel
theorem dX1_meet_2 : decode cX1_meet 2 = .ok (.lcmp, 1) := by decide +kernel
theorem dX1_meet_3 : decode cX1_meet 3 = .ok (.ifCond .ne 6, 3) := by decide +kernel
theorem dX1_meet_6 : decode cX1_meet 6 = .ok (.bipush (-6), 2) := by decide +kernel
theorem dX1_meet_8 : decode cX1_meet 8 = .ok (.ireturn, 1) := by decide +kernel
theorem dX1_meet_9 : decode cX1_meet 9 = .ok (.lload_n 2, 1) := by decide +kernel
theorem dX1_meet_10 : decode cX1_meet 10 = .ok (.ldc2_w 35, 3) := by decide +kernel
theorem dX1_meet_13 : decode cX1_meet 13 = .ok (.lcmp, 1) := by decide +kernel
theorem dX1_meet_14 : decode cX1_meet 14 = .ok (.ifCond .ne 6, 3) := by decide +kernel
theorem dX1_meet_17 : decode cX1_meet 17 = .ok (.bipush (-7), 2) := by decide +kernel
theorem dX1_meet_19 : decode cX1_meet 19 = .ok (.ireturn, 1) := by decide +kernel
theorem dX1_meet_20 : decode cX1_meet 20 = .ok (.aload_n 0, 1) := by decide +kernel
theorem dX1_meet_21 : decode cX1_meet 21 = .ok (.lload_n 2, 1) := by decide +kernel
theorem dX1_meet_22 : decode cX1_meet 22 = .ok (.invokevirtual 37, 3) := by decide +kernel
theorem dX1_meet_25 : decode cX1_meet 25 = .ok (.istore 5, 2) := by decide +kernel
theorem dX1_meet_27 : decode cX1_meet 27 = .ok (.iload 5, 2) := by decide +kernel
theorem dX1_meet_29 : decode cX1_meet 29 = .ok (.ifCond .lt 6, 3) := by decide +kernel
theorem dX1_meet_32 : decode cX1_meet 32 = .ok (.iload 5, 2) := by decide +kernel
theorem dX1_meet_34 : decode cX1_meet 34 = .ok (.ireturn, 1) := by decide +kernel
theorem dX1_meet_35 : decode cX1_meet 35 = .ok (.aload_n 1, 1) := by decide +kernel
theorem dX1_meet_36 : decode cX1_meet 36 = .ok (.lload_n 2, 1) := by decide +kernel
theorem dX1_meet_37 : decode cX1_meet 37 = .ok (.iload 4, 2) := by decide +kernel
theorem dX1_meet_39 : decode cX1_meet 39 = .ok (.invokestatic 41, 3) := by decide +kernel
theorem dX1_meet_42 : decode cX1_meet 42 = .ok (.istore 6, 2) := by decide +kernel
theorem dX1_meet_44 : decode cX1_meet 44 = .ok (.iload 6, 2) := by decide +kernel
theorem dX1_meet_46 : decode cX1_meet 46 = .ok (.aload_n 1, 1) := by decide +kernel
theorem dX1_meet_47 : decode cX1_meet 47 = .ok (.getfield 44, 3) := by decide +kernel
theorem dX1_meet_50 : decode cX1_meet 50 = .ok (.if_icmp .ge 12, 3) := by decide +kernel
theorem dX1_meet_53 : decode cX1_meet 53 = .ok (.aload_n 0, 1) := by decide +kernel
theorem dX1_meet_54 : decode cX1_meet 54 = .ok (.getfield 25, 3) := by decide +kernel
theorem dX1_meet_57 : decode cX1_meet 57 = .ok (.bipush 64, 2) := by decide +kernel
theorem dX1_meet_59 : decode cX1_meet 59 = .ok (.if_icmp .lt 6, 3) := by decide +kernel
theorem dX1_meet_62 : decode cX1_meet 62 = .ok (.bipush (-6), 2) := by decide +kernel
theorem dX1_meet_64 : decode cX1_meet 64 = .ok (.ireturn, 1) := by decide +kernel
theorem dX1_meet_65 : decode cX1_meet 65 = .ok (.aload_n 1, 1) := by decide +kernel
theorem dX1_meet_66 : decode cX1_meet 66 = .ok (.getfield 47, 3) := by decide +kernel
theorem dX1_meet_69 : decode cX1_meet 69 = .ok (.iload 6, 2) := by decide +kernel
theorem dX1_meet_71 : decode cX1_meet 71 = .ok (.iaload, 1) := by decide +kernel
theorem dX1_meet_72 : decode cX1_meet 72 = .ok (.istore 7, 2) := by decide +kernel
theorem dX1_meet_74 : decode cX1_meet 74 = .ok (.aload_n 0, 1) := by decide +kernel
theorem dX1_meet_75 : decode cX1_meet 75 = .ok (.getfield 25, 3) := by decide +kernel
theorem dX1_meet_78 : decode cX1_meet 78 = .ok (.istore 8, 2) := by decide +kernel
theorem dX1_meet_80 : decode cX1_meet 80 = .ok (.aload_n 0, 1) := by decide +kernel
theorem dX1_meet_81 : decode cX1_meet 81 = .ok (.dup, 1) := by decide +kernel
theorem dX1_meet_82 : decode cX1_meet 82 = .ok (.getfield 25, 3) := by decide +kernel
theorem dX1_meet_85 : decode cX1_meet 85 = .ok (.iconst 1, 1) := by decide +kernel
theorem dX1_meet_86 : decode cX1_meet 86 = .ok (.iadd, 1) := by decide +kernel
theorem dX1_meet_87 : decode cX1_meet 87 = .ok (.putfield 25, 3) := by decide +kernel
theorem dX1_meet_90 : decode cX1_meet 90 = .ok (.aload_n 0, 1) := by decide +kernel
theorem dX1_meet_91 : decode cX1_meet 91 = .ok (.getfield 11, 3) := by decide +kernel
theorem dX1_meet_94 : decode cX1_meet 94 = .ok (.iload 8, 2) := by decide +kernel
theorem dX1_meet_96 : decode cX1_meet 96 = .ok (.lload_n 2, 1) := by decide +kernel
theorem dX1_meet_97 : decode cX1_meet 97 = .ok (.lastore, 1) := by decide +kernel
theorem dX1_meet_98 : decode cX1_meet 98 = .ok (.aload_n 0, 1) := by decide +kernel
theorem dX1_meet_99 : decode cX1_meet 99 = .ok (.getfield 15, 3) := by decide +kernel
theorem dX1_meet_102 : decode cX1_meet 102 = .ok (.iload 8, 2) := by decide +kernel
theorem dX1_meet_104 : decode cX1_meet 104 = .ok (.iload 7, 2) := by decide +kernel
theorem dX1_meet_106 : decode cX1_meet 106 = .ok (.iastore, 1) := by decide +kernel
theorem dX1_meet_107 : decode cX1_meet 107 = .ok (.aload_n 0, 1) := by decide +kernel
theorem dX1_meet_108 : decode cX1_meet 108 = .ok (.getfield 19, 3) := by decide +kernel
theorem dX1_meet_111 : decode cX1_meet 111 = .ok (.iload 8, 2) := by decide +kernel
theorem dX1_meet_113 : decode cX1_meet 113 = .ok (.aload_n 0, 1) := by decide +kernel
theorem dX1_meet_114 : decode cX1_meet 114 = .ok (.aload_n 1, 1) := by decide +kernel
theorem dX1_meet_115 : decode cX1_meet 115 = .ok (.lload_n 2, 1) := by decide +kernel
theorem dX1_meet_116 : decode cX1_meet 116 = .ok (.iload 7, 2) := by decide +kernel
theorem dX1_meet_118 : decode cX1_meet 118 = .ok (.invokestatic 50, 3) := by decide +kernel
theorem dX1_meet_121 : decode cX1_meet 121 = .ok (.iload 6, 2) := by decide +kernel
theorem dX1_meet_123 : decode cX1_meet 123 = .ok (.iconst 1, 1) := by decide +kernel
theorem dX1_meet_124 : decode cX1_meet 124 = .ok (.iadd, 1) := by decide +kernel
theorem dX1_meet_125 : decode cX1_meet 125 = .ok (.invokevirtual 29, 3) := by decide +kernel
theorem dX1_meet_128 : decode cX1_meet 128 = .ok (.iastore, 1) := by decide +kernel
theorem dX1_meet_129 : decode cX1_meet 129 = .ok (.aload_n 0, 1) := by decide +kernel
theorem dX1_meet_130 : decode cX1_meet 130 = .ok (.getfield 22, 3) := by decide +kernel
theorem dX1_meet_133 : decode cX1_meet 133 = .ok (.iload 8, 2) := by decide +kernel
theorem dX1_meet_135 : decode cX1_meet 135 = .ok (.aload_n 0, 1) := by decide +kernel
theorem dX1_meet_136 : decode cX1_meet 136 = .ok (.aload_n 1, 1) := by decide +kernel
theorem dX1_meet_137 : decode cX1_meet 137 = .ok (.lload_n 2, 1) := by decide +kernel
theorem dX1_meet_138 : decode cX1_meet 138 = .ok (.iload 7, 2) := by decide +kernel
theorem dX1_meet_140 : decode cX1_meet 140 = .ok (.invokestatic 54, 3) := by decide +kernel
theorem dX1_meet_143 : decode cX1_meet 143 = .ok (.iload 6, 2) := by decide +kernel
theorem dX1_meet_145 : decode cX1_meet 145 = .ok (.iconst 1, 1) := by decide +kernel
theorem dX1_meet_146 : decode cX1_meet 146 = .ok (.iadd, 1) := by decide +kernel
theorem dX1_meet_147 : decode cX1_meet 147 = .ok (.invokevirtual 29, 3) := by decide +kernel
theorem dX1_meet_150 : decode cX1_meet 150 = .ok (.iastore, 1) := by decide +kernel
theorem dX1_meet_151 : decode cX1_meet 151 = .ok (.iload 8, 2) := by decide +kernel
theorem dX1_meet_153 : decode cX1_meet 153 = .ok (.ireturn, 1) := by decide +kernel
theorem dX1_met_0 : decode cX1_met 0 = .ok (.iconst 0, 1) := by decide +kernel
theorem dX1_met_1 : decode cX1_met 1 = .ok (.istore_n 3, 1) := by decide +kernel
theorem dX1_met_2 : decode cX1_met 2 = .ok (.iload_n 3, 1) := by decide +kernel
theorem dX1_met_3 : decode cX1_met 3 = .ok (.aload_n 0, 1) := by decide +kernel
theorem dX1_met_4 : decode cX1_met 4 = .ok (.getfield 25, 3) := by decide +kernel
theorem dX1_met_7 : decode cX1_met 7 = .ok (.if_icmp .ge 22, 3) := by decide +kernel
theorem dX1_met_10 : decode cX1_met 10 = .ok (.aload_n 0, 1) := by decide +kernel
theorem dX1_met_11 : decode cX1_met 11 = .ok (.getfield 11, 3) := by decide +kernel
theorem dX1_met_14 : decode cX1_met 14 = .ok (.iload_n 3, 1) := by decide +kernel
theorem dX1_met_15 : decode cX1_met 15 = .ok (.laload, 1) := by decide +kernel
theorem dX1_met_16 : decode cX1_met 16 = .ok (.lload_n 1, 1) := by decide +kernel
theorem dX1_met_17 : decode cX1_met 17 = .ok (.lcmp, 1) := by decide +kernel
theorem dX1_met_18 : decode cX1_met 18 = .ok (.ifCond .ne 5, 3) := by decide +kernel
theorem dX1_met_21 : decode cX1_met 21 = .ok (.iload_n 3, 1) := by decide +kernel
theorem dX1_met_22 : decode cX1_met 22 = .ok (.ireturn, 1) := by decide +kernel
theorem dX1_met_23 : decode cX1_met 23 = .ok (.iinc 3 1, 3) := by decide +kernel
theorem dX1_met_26 : decode cX1_met 26 = .ok (.goto (-24), 3) := by decide +kernel
theorem dX1_met_29 : decode cX1_met 29 = .ok (.iconst (-1), 1) := by decide +kernel
theorem dX1_met_30 : decode cX1_met 30 = .ok (.ireturn, 1) := by decide +kernel
theorem dX1_firstPlace_0 : decode cX1_firstPlace 0 = .ok (.iload_n 3, 1) := by decide +kernel
theorem dX1_firstPlace_1 : decode cX1_firstPlace 1 = .ok (.istore 4, 2) := by decide +kernel
theorem dX1_firstPlace_3 : decode cX1_firstPlace 3 = .ok (.iload 4, 2) := by decide +kernel
theorem dX1_firstPlace_5 : decode cX1_firstPlace 5 = .ok (.aload_n 0, 1) := by decide +kernel
theorem dX1_firstPlace_6 : decode cX1_firstPlace 6 = .ok (.getfield 44, 3) := by decide +kernel
theorem dX1_firstPlace_9 : decode cX1_firstPlace 9 = .ok (.if_icmp .ge 37, 3) := by decide +kernel
theorem dX1_firstPlace_12 : decode cX1_firstPlace 12 = .ok (.aload_n 0, 1) := by decide +kernel
theorem dX1_firstPlace_13 : decode cX1_firstPlace 13 = .ok (.getfield 47, 3) := by decide +kernel
theorem dX1_firstPlace_16 : decode cX1_firstPlace 16 = .ok (.iload 4, 2) := by decide +kernel
theorem dX1_firstPlace_18 : decode cX1_firstPlace 18 = .ok (.iaload, 1) := by decide +kernel
theorem dX1_firstPlace_19 : decode cX1_firstPlace 19 = .ok (.istore 5, 2) := by decide +kernel
theorem dX1_firstPlace_21 : decode cX1_firstPlace 21 = .ok (.lload_n 1, 1) := by decide +kernel
theorem dX1_firstPlace_22 : decode cX1_firstPlace 22 = .ok (.iload 5, 2) := by decide +kernel
theorem dX1_firstPlace_24 : decode cX1_firstPlace 24 = .ok (.invokestatic 50, 3) := by decide +kernel
theorem dX1_firstPlace_27 : decode cX1_firstPlace 27 = .ok (.lload_n 1, 1) := by decide +kernel
theorem dX1_firstPlace_28 : decode cX1_firstPlace 28 = .ok (.iload 5, 2) := by decide +kernel
theorem dX1_firstPlace_30 : decode cX1_firstPlace 30 = .ok (.invokestatic 54, 3) := by decide +kernel
theorem dX1_firstPlace_33 : decode cX1_firstPlace 33 = .ok (.lcmp, 1) := by decide +kernel
theorem dX1_firstPlace_34 : decode cX1_firstPlace 34 = .ok (.ifCond .eq 6, 3) := by decide +kernel
theorem dX1_firstPlace_37 : decode cX1_firstPlace 37 = .ok (.iload 4, 2) := by decide +kernel
theorem dX1_firstPlace_39 : decode cX1_firstPlace 39 = .ok (.ireturn, 1) := by decide +kernel
theorem dX1_firstPlace_40 : decode cX1_firstPlace 40 = .ok (.iinc 4 1, 3) := by decide +kernel
theorem dX1_firstPlace_43 : decode cX1_firstPlace 43 = .ok (.goto (-40), 3) := by decide +kernel
theorem dX1_firstPlace_46 : decode cX1_firstPlace 46 = .ok (.aload_n 0, 1) := by decide +kernel
theorem dX1_firstPlace_47 : decode cX1_firstPlace 47 = .ok (.getfield 44, 3) := by decide +kernel
theorem dX1_firstPlace_50 : decode cX1_firstPlace 50 = .ok (.ireturn, 1) := by decide +kernel
theorem dX1_ofNode_0 : decode cX1_ofNode 0 = .ok (.iload_n 1, 1) := by decide +kernel
theorem dX1_ofNode_1 : decode cX1_ofNode 1 = .ok (.ifCond .lt 11, 3) := by decide +kernel
theorem dX1_ofNode_4 : decode cX1_ofNode 4 = .ok (.iload_n 1, 1) := by decide +kernel
theorem dX1_ofNode_5 : decode cX1_ofNode 5 = .ok (.aload_n 0, 1) := by decide +kernel
theorem dX1_ofNode_6 : decode cX1_ofNode 6 = .ok (.getfield 25, 3) := by decide +kernel
theorem dX1_ofNode_9 : decode cX1_ofNode 9 = .ok (.if_icmp .lt 5, 3) := by decide +kernel
theorem dX1_ofNode_12 : decode cX1_ofNode 12 = .ok (.iconst (-1), 1) := by decide +kernel
theorem dX1_ofNode_13 : decode cX1_ofNode 13 = .ok (.ireturn, 1) := by decide +kernel
theorem dX1_ofNode_14 : decode cX1_ofNode 14 = .ok (.iload_n 2, 1) := by decide +kernel
theorem dX1_ofNode_15 : decode cX1_ofNode 15 = .ok (.tableswitch 46 0 2 #[25, 32, 39], 25) := by decide +kernel
theorem dX1_ofNode_40 : decode cX1_ofNode 40 = .ok (.aload_n 0, 1) := by decide +kernel
theorem dX1_ofNode_41 : decode cX1_ofNode 41 = .ok (.getfield 15, 3) := by decide +kernel
theorem dX1_ofNode_44 : decode cX1_ofNode 44 = .ok (.iload_n 1, 1) := by decide +kernel
theorem dX1_ofNode_45 : decode cX1_ofNode 45 = .ok (.iaload, 1) := by decide +kernel
theorem dX1_ofNode_46 : decode cX1_ofNode 46 = .ok (.ireturn, 1) := by decide +kernel
theorem dX1_ofNode_47 : decode cX1_ofNode 47 = .ok (.aload_n 0, 1) := by decide +kernel
theorem dX1_ofNode_48 : decode cX1_ofNode 48 = .ok (.getfield 19, 3) := by decide +kernel
theorem dX1_ofNode_51 : decode cX1_ofNode 51 = .ok (.iload_n 1, 1) := by decide +kernel
theorem dX1_ofNode_52 : decode cX1_ofNode 52 = .ok (.iaload, 1) := by decide +kernel
theorem dX1_ofNode_53 : decode cX1_ofNode 53 = .ok (.ireturn, 1) := by decide +kernel
theorem dX1_ofNode_54 : decode cX1_ofNode 54 = .ok (.aload_n 0, 1) := by decide +kernel
theorem dX1_ofNode_55 : decode cX1_ofNode 55 = .ok (.getfield 22, 3) := by decide +kernel
theorem dX1_ofNode_58 : decode cX1_ofNode 58 = .ok (.iload_n 1, 1) := by decide +kernel
theorem dX1_ofNode_59 : decode cX1_ofNode 59 = .ok (.iaload, 1) := by decide +kernel
theorem dX1_ofNode_60 : decode cX1_ofNode 60 = .ok (.ireturn, 1) := by decide +kernel
theorem dX1_ofNode_61 : decode cX1_ofNode 61 = .ok (.iconst (-1), 1) := by decide +kernel
theorem dX1_ofNode_62 : decode cX1_ofNode 62 = .ok (.ireturn, 1) := by decide +kernel
theorem dX2_init_0 : decode cX2_init 0 = .ok (.aload_n 0, 1) := by decide +kernel
theorem dX2_init_1 : decode cX2_init 1 = .ok (.invokespecial 3, 3) := by decide +kernel
theorem dX2_init_4 : decode cX2_init 4 = .ok (.aload_n 0, 1) := by decide +kernel
theorem dX2_init_5 : decode cX2_init 5 = .ok (.bipush 64, 2) := by decide +kernel
theorem dX2_init_7 : decode cX2_init 7 = .ok (.newarray .int, 2) := by decide +kernel
theorem dX2_init_9 : decode cX2_init 9 = .ok (.putfield 9, 3) := by decide +kernel
theorem dX2_init_12 : decode cX2_init 12 = .ok (.return_, 1) := by decide +kernel
theorem dX2_listCuts_0 : decode cX2_listCuts 0 = .ok (.aload_n 0, 1) := by decide +kernel
theorem dX2_listCuts_1 : decode cX2_listCuts 1 = .ok (.lload_n 1, 1) := by decide +kernel
theorem dX2_listCuts_2 : decode cX2_listCuts 2 = .ok (.iload_n 3, 1) := by decide +kernel
theorem dX2_listCuts_3 : decode cX2_listCuts 3 = .ok (.invokevirtual 15, 3) := by decide +kernel
theorem dX2_listCuts_6 : decode cX2_listCuts 6 = .ok (.ireturn, 1) := by decide +kernel
theorem dX2_listPaths_0 : decode cX2_listPaths 0 = .ok (.aload_n 0, 1) := by decide +kernel
theorem dX2_listPaths_1 : decode cX2_listPaths 1 = .ok (.lload_n 1, 1) := by decide +kernel
theorem dX2_listPaths_2 : decode cX2_listPaths 2 = .ok (.invokestatic 19, 3) := by decide +kernel
theorem dX2_listPaths_5 : decode cX2_listPaths 5 = .ok (.iload_n 3, 1) := by decide +kernel
theorem dX2_listPaths_6 : decode cX2_listPaths 6 = .ok (.invokevirtual 15, 3) := by decide +kernel
theorem dX2_listPaths_9 : decode cX2_listPaths 9 = .ok (.ireturn, 1) := by decide +kernel
theorem dX2_keepsUp_0 : decode cX2_keepsUp 0 = .ok (.lconst 0, 1) := by decide +kernel
theorem dX2_keepsUp_1 : decode cX2_keepsUp 1 = .ok (.lstore_n 2, 1) := by decide +kernel
theorem dX2_keepsUp_2 : decode cX2_keepsUp 2 = .ok (.iconst 0, 1) := by decide +kernel
theorem dX2_keepsUp_3 : decode cX2_keepsUp 3 = .ok (.istore 4, 2) := by decide +kernel
theorem dX2_keepsUp_5 : decode cX2_keepsUp 5 = .ok (.iload 4, 2) := by decide +kernel
theorem dX2_keepsUp_7 : decode cX2_keepsUp 7 = .ok (.bipush 64, 2) := by decide +kernel
theorem dX2_keepsUp_9 : decode cX2_keepsUp 9 = .ok (.if_icmp .ge 28, 3) := by decide +kernel
theorem dX2_keepsUp_12 : decode cX2_keepsUp 12 = .ok (.lload_n 0, 1) := by decide +kernel
theorem dX2_keepsUp_13 : decode cX2_keepsUp 13 = .ok (.bipush 63, 2) := by decide +kernel
theorem dX2_keepsUp_15 : decode cX2_keepsUp 15 = .ok (.iload 4, 2) := by decide +kernel
theorem dX2_keepsUp_17 : decode cX2_keepsUp 17 = .ok (.isub, 1) := by decide +kernel
theorem dX2_keepsUp_18 : decode cX2_keepsUp 18 = .ok (.invokestatic 23, 3) := by decide +kernel
theorem dX2_keepsUp_21 : decode cX2_keepsUp 21 = .ok (.ifCond .ne 10, 3) := by decide +kernel
theorem dX2_keepsUp_24 : decode cX2_keepsUp 24 = .ok (.lload_n 2, 1) := by decide +kernel
theorem dX2_keepsUp_25 : decode cX2_keepsUp 25 = .ok (.lconst 1, 1) := by decide +kernel
theorem dX2_keepsUp_26 : decode cX2_keepsUp 26 = .ok (.iload 4, 2) := by decide +kernel
theorem dX2_keepsUp_28 : decode cX2_keepsUp 28 = .ok (.lshl, 1) := by decide +kernel
theorem dX2_keepsUp_29 : decode cX2_keepsUp 29 = .ok (.lor, 1) := by decide +kernel
theorem dX2_keepsUp_30 : decode cX2_keepsUp 30 = .ok (.lstore_n 2, 1) := by decide +kernel
theorem dX2_keepsUp_31 : decode cX2_keepsUp 31 = .ok (.iinc 4 1, 3) := by decide +kernel
theorem dX2_keepsUp_34 : decode cX2_keepsUp 34 = .ok (.goto (-29), 3) := by decide +kernel
theorem dX2_keepsUp_37 : decode cX2_keepsUp 37 = .ok (.lload_n 2, 1) := by decide +kernel
theorem dX2_keepsUp_38 : decode cX2_keepsUp 38 = .ok (.lreturn, 1) := by decide +kernel
theorem dX2_list_0 : decode cX2_list 0 = .ok (.aload_n 0, 1) := by decide +kernel
theorem dX2_list_1 : decode cX2_list 1 = .ok (.iconst 0, 1) := by decide +kernel
theorem dX2_list_2 : decode cX2_list 2 = .ok (.putfield 27, 3) := by decide +kernel
theorem dX2_list_5 : decode cX2_list 5 = .ok (.iconst 0, 1) := by decide +kernel
theorem dX2_list_6 : decode cX2_list 6 = .ok (.istore 4, 2) := by decide +kernel
theorem dX2_list_8 : decode cX2_list 8 = .ok (.iload 4, 2) := by decide +kernel
theorem dX2_list_10 : decode cX2_list 10 = .ok (.iload_n 3, 1) := by decide +kernel
theorem dX2_list_11 : decode cX2_list 11 = .ok (.if_icmp .gt 52, 3) := by decide +kernel
theorem dX2_list_14 : decode cX2_list 14 = .ok (.iconst 0, 1) := by decide +kernel
theorem dX2_list_15 : decode cX2_list 15 = .ok (.istore 5, 2) := by decide +kernel
theorem dX2_list_17 : decode cX2_list 17 = .ok (.iload 5, 2) := by decide +kernel
theorem dX2_list_19 : decode cX2_list 19 = .ok (.iconst 1, 1) := by decide +kernel
theorem dX2_list_20 : decode cX2_list 20 = .ok (.iload_n 3, 1) := by decide +kernel
theorem dX2_list_21 : decode cX2_list 21 = .ok (.ishl, 1) := by decide +kernel
theorem dX2_list_22 : decode cX2_list 22 = .ok (.if_icmp .ge 35, 3) := by decide +kernel
theorem dX2_list_25 : decode cX2_list 25 = .ok (.iload 5, 2) := by decide +kernel
theorem dX2_list_27 : decode cX2_list 27 = .ok (.invokestatic 31, 3) := by decide +kernel
theorem dX2_list_30 : decode cX2_list 30 = .ok (.iload 4, 2) := by decide +kernel
theorem dX2_list_32 : decode cX2_list 32 = .ok (.if_icmp .ne 19, 3) := by decide +kernel
theorem dX2_list_35 : decode cX2_list 35 = .ok (.lload_n 1, 1) := by decide +kernel
theorem dX2_list_36 : decode cX2_list 36 = .ok (.iload 5, 2) := by decide +kernel
theorem dX2_list_38 : decode cX2_list 38 = .ok (.iload_n 3, 1) := by decide +kernel
theorem dX2_list_39 : decode cX2_list 39 = .ok (.invokestatic 37, 3) := by decide +kernel
theorem dX2_list_42 : decode cX2_list 42 = .ok (.ifCond .eq 9, 3) := by decide +kernel
theorem dX2_list_45 : decode cX2_list 45 = .ok (.aload_n 0, 1) := by decide +kernel
theorem dX2_list_46 : decode cX2_list 46 = .ok (.iload 5, 2) := by decide +kernel
theorem dX2_list_48 : decode cX2_list 48 = .ok (.invokevirtual 41, 3) := by decide +kernel
theorem dX2_list_51 : decode cX2_list 51 = .ok (.iinc 5 1, 3) := by decide +kernel
theorem dX2_list_54 : decode cX2_list 54 = .ok (.goto (-37), 3) := by decide +kernel
theorem dX2_list_57 : decode cX2_list 57 = .ok (.iinc 4 1, 3) := by decide +kernel
theorem dX2_list_60 : decode cX2_list 60 = .ok (.goto (-52), 3) := by decide +kernel
theorem dX2_list_63 : decode cX2_list 63 = .ok (.aload_n 0, 1) := by decide +kernel
theorem dX2_list_64 : decode cX2_list 64 = .ok (.getfield 27, 3) := by decide +kernel
theorem dX2_list_67 : decode cX2_list 67 = .ok (.ireturn, 1) := by decide +kernel
theorem dX2_keep_0 : decode cX2_keep 0 = .ok (.aload_n 0, 1) := by decide +kernel
theorem dX2_keep_1 : decode cX2_keep 1 = .ok (.getfield 27, 3) := by decide +kernel
theorem dX2_keep_4 : decode cX2_keep 4 = .ok (.aload_n 0, 1) := by decide +kernel
theorem dX2_keep_5 : decode cX2_keep 5 = .ok (.getfield 9, 3) := by decide +kernel
theorem dX2_keep_8 : decode cX2_keep 8 = .ok (.arraylength, 1) := by decide +kernel
theorem dX2_keep_9 : decode cX2_keep 9 = .ok (.if_icmp .ge 23, 3) := by decide +kernel
theorem dX2_keep_12 : decode cX2_keep 12 = .ok (.aload_n 0, 1) := by decide +kernel
theorem dX2_keep_13 : decode cX2_keep 13 = .ok (.getfield 9, 3) := by decide +kernel
theorem dX2_keep_16 : decode cX2_keep 16 = .ok (.aload_n 0, 1) := by decide +kernel
theorem dX2_keep_17 : decode cX2_keep 17 = .ok (.getfield 27, 3) := by decide +kernel
theorem dX2_keep_20 : decode cX2_keep 20 = .ok (.iload_n 1, 1) := by decide +kernel
theorem dX2_keep_21 : decode cX2_keep 21 = .ok (.iastore, 1) := by decide +kernel
theorem dX2_keep_22 : decode cX2_keep 22 = .ok (.aload_n 0, 1) := by decide +kernel
theorem dX2_keep_23 : decode cX2_keep 23 = .ok (.dup, 1) := by decide +kernel
theorem dX2_keep_24 : decode cX2_keep 24 = .ok (.getfield 27, 3) := by decide +kernel
theorem dX2_keep_27 : decode cX2_keep 27 = .ok (.iconst 1, 1) := by decide +kernel
theorem dX2_keep_28 : decode cX2_keep 28 = .ok (.iadd, 1) := by decide +kernel
theorem dX2_keep_29 : decode cX2_keep 29 = .ok (.putfield 27, 3) := by decide +kernel
theorem dX2_keep_32 : decode cX2_keep 32 = .ok (.return_, 1) := by decide +kernel
theorem dX2_isLeast_0 : decode cX2_isLeast 0 = .ok (.lload_n 0, 1) := by decide +kernel
theorem dX2_isLeast_1 : decode cX2_isLeast 1 = .ok (.iload_n 2, 1) := by decide +kernel
theorem dX2_isLeast_2 : decode cX2_isLeast 2 = .ok (.invokestatic 23, 3) := by decide +kernel
theorem dX2_isLeast_5 : decode cX2_isLeast 5 = .ok (.ifCond .ne 5, 3) := by decide +kernel
theorem dX2_isLeast_8 : decode cX2_isLeast 8 = .ok (.iconst 0, 1) := by decide +kernel
theorem dX2_isLeast_9 : decode cX2_isLeast 9 = .ok (.ireturn, 1) := by decide +kernel
theorem dX2_isLeast_10 : decode cX2_isLeast 10 = .ok (.iconst 0, 1) := by decide +kernel
theorem dX2_isLeast_11 : decode cX2_isLeast 11 = .ok (.istore 4, 2) := by decide +kernel
theorem dX2_isLeast_13 : decode cX2_isLeast 13 = .ok (.iload 4, 2) := by decide +kernel
theorem dX2_isLeast_15 : decode cX2_isLeast 15 = .ok (.iload_n 3, 1) := by decide +kernel
theorem dX2_isLeast_16 : decode cX2_isLeast 16 = .ok (.if_icmp .ge 36, 3) := by decide +kernel
theorem dX2_isLeast_19 : decode cX2_isLeast 19 = .ok (.iload_n 2, 1) := by decide +kernel
theorem dX2_isLeast_20 : decode cX2_isLeast 20 = .ok (.iconst 1, 1) := by decide +kernel
theorem dX2_isLeast_21 : decode cX2_isLeast 21 = .ok (.iload 4, 2) := by decide +kernel
theorem dX2_isLeast_23 : decode cX2_isLeast 23 = .ok (.ishl, 1) := by decide +kernel
theorem dX2_isLeast_24 : decode cX2_isLeast 24 = .ok (.iconst (-1), 1) := by decide +kernel
theorem dX2_isLeast_25 : decode cX2_isLeast 25 = .ok (.ixor, 1) := by decide +kernel
theorem dX2_isLeast_26 : decode cX2_isLeast 26 = .ok (.iand, 1) := by decide +kernel
theorem dX2_isLeast_27 : decode cX2_isLeast 27 = .ok (.istore 5, 2) := by decide +kernel
theorem dX2_isLeast_29 : decode cX2_isLeast 29 = .ok (.iload 5, 2) := by decide +kernel
theorem dX2_isLeast_31 : decode cX2_isLeast 31 = .ok (.iload_n 2, 1) := by decide +kernel
theorem dX2_isLeast_32 : decode cX2_isLeast 32 = .ok (.if_icmp .eq 14, 3) := by decide +kernel
theorem dX2_isLeast_35 : decode cX2_isLeast 35 = .ok (.lload_n 0, 1) := by decide +kernel
theorem dX2_isLeast_36 : decode cX2_isLeast 36 = .ok (.iload 5, 2) := by decide +kernel
theorem dX2_isLeast_38 : decode cX2_isLeast 38 = .ok (.invokestatic 23, 3) := by decide +kernel
theorem dX2_isLeast_41 : decode cX2_isLeast 41 = .ok (.ifCond .eq 5, 3) := by decide +kernel
theorem dX2_isLeast_44 : decode cX2_isLeast 44 = .ok (.iconst 0, 1) := by decide +kernel
theorem dX2_isLeast_45 : decode cX2_isLeast 45 = .ok (.ireturn, 1) := by decide +kernel
theorem dX2_isLeast_46 : decode cX2_isLeast 46 = .ok (.iinc 4 1, 3) := by decide +kernel
theorem dX2_isLeast_49 : decode cX2_isLeast 49 = .ok (.goto (-36), 3) := by decide +kernel
theorem dX2_isLeast_52 : decode cX2_isLeast 52 = .ok (.iconst 1, 1) := by decide +kernel
theorem dX2_isLeast_53 : decode cX2_isLeast 53 = .ok (.ireturn, 1) := by decide +kernel
theorem dX2_bitsOf_0 : decode cX2_bitsOf 0 = .ok (.iload_n 1, 1) := by decide +kernel
theorem dX2_bitsOf_1 : decode cX2_bitsOf 1 = .ok (.ifCond .lt 20, 3) := by decide +kernel
theorem dX2_bitsOf_4 : decode cX2_bitsOf 4 = .ok (.iload_n 1, 1) := by decide +kernel
theorem dX2_bitsOf_5 : decode cX2_bitsOf 5 = .ok (.aload_n 0, 1) := by decide +kernel
theorem dX2_bitsOf_6 : decode cX2_bitsOf 6 = .ok (.getfield 27, 3) := by decide +kernel
theorem dX2_bitsOf_9 : decode cX2_bitsOf 9 = .ok (.if_icmp .ge 12, 3) := by decide +kernel
theorem dX2_bitsOf_12 : decode cX2_bitsOf 12 = .ok (.aload_n 0, 1) := by decide +kernel
theorem dX2_bitsOf_13 : decode cX2_bitsOf 13 = .ok (.getfield 9, 3) := by decide +kernel
theorem dX2_bitsOf_16 : decode cX2_bitsOf 16 = .ok (.iload_n 1, 1) := by decide +kernel
theorem dX2_bitsOf_17 : decode cX2_bitsOf 17 = .ok (.iaload, 1) := by decide +kernel
theorem dX2_bitsOf_18 : decode cX2_bitsOf 18 = .ok (.goto 4, 3) := by decide +kernel
theorem dX2_bitsOf_21 : decode cX2_bitsOf 21 = .ok (.iconst (-1), 1) := by decide +kernel
theorem dX2_bitsOf_22 : decode cX2_bitsOf 22 = .ok (.ireturn, 1) := by decide +kernel
theorem dX2_has_0 : decode cX2_has 0 = .ok (.iconst 0, 1) := by decide +kernel
theorem dX2_has_1 : decode cX2_has 1 = .ok (.istore_n 2, 1) := by decide +kernel
theorem dX2_has_2 : decode cX2_has 2 = .ok (.iload_n 2, 1) := by decide +kernel
theorem dX2_has_3 : decode cX2_has 3 = .ok (.aload_n 0, 1) := by decide +kernel
theorem dX2_has_4 : decode cX2_has 4 = .ok (.getfield 27, 3) := by decide +kernel
theorem dX2_has_7 : decode cX2_has 7 = .ok (.if_icmp .ge 21, 3) := by decide +kernel
theorem dX2_has_10 : decode cX2_has 10 = .ok (.aload_n 0, 1) := by decide +kernel
theorem dX2_has_11 : decode cX2_has 11 = .ok (.getfield 9, 3) := by decide +kernel
theorem dX2_has_14 : decode cX2_has 14 = .ok (.iload_n 2, 1) := by decide +kernel
theorem dX2_has_15 : decode cX2_has 15 = .ok (.iaload, 1) := by decide +kernel
theorem dX2_has_16 : decode cX2_has 16 = .ok (.iload_n 1, 1) := by decide +kernel
theorem dX2_has_17 : decode cX2_has 17 = .ok (.if_icmp .ne 5, 3) := by decide +kernel
theorem dX2_has_20 : decode cX2_has 20 = .ok (.iconst 1, 1) := by decide +kernel
theorem dX2_has_21 : decode cX2_has 21 = .ok (.ireturn, 1) := by decide +kernel
theorem dX2_has_22 : decode cX2_has 22 = .ok (.iinc 2 1, 3) := by decide +kernel
theorem dX2_has_25 : decode cX2_has 25 = .ok (.goto (-23), 3) := by decide +kernel
theorem dX2_has_28 : decode cX2_has 28 = .ok (.iconst 0, 1) := by decide +kernel
theorem dX2_has_29 : decode cX2_has 29 = .ok (.ireturn, 1) := by decide +kernel
theorem dX2_partsTogether_0 : decode cX2_partsTogether 0 = .ok (.iconst 0, 1) := by decide +kernel
theorem dX2_partsTogether_1 : decode cX2_partsTogether 1 = .ok (.istore_n 1, 1) := by decide +kernel
theorem dX2_partsTogether_2 : decode cX2_partsTogether 2 = .ok (.iconst 0, 1) := by decide +kernel
theorem dX2_partsTogether_3 : decode cX2_partsTogether 3 = .ok (.istore_n 2, 1) := by decide +kernel
theorem dX2_partsTogether_4 : decode cX2_partsTogether 4 = .ok (.iload_n 2, 1) := by decide +kernel
theorem dX2_partsTogether_5 : decode cX2_partsTogether 5 = .ok (.aload_n 0, 1) := by decide +kernel
theorem dX2_partsTogether_6 : decode cX2_partsTogether 6 = .ok (.getfield 27, 3) := by decide +kernel
theorem dX2_partsTogether_9 : decode cX2_partsTogether 9 = .ok (.if_icmp .ge 21, 3) := by decide +kernel
theorem dX2_partsTogether_12 : decode cX2_partsTogether 12 = .ok (.iload_n 1, 1) := by decide +kernel
theorem dX2_partsTogether_13 : decode cX2_partsTogether 13 = .ok (.aload_n 0, 1) := by decide +kernel
theorem dX2_partsTogether_14 : decode cX2_partsTogether 14 = .ok (.getfield 9, 3) := by decide +kernel
theorem dX2_partsTogether_17 : decode cX2_partsTogether 17 = .ok (.iload_n 2, 1) := by decide +kernel
theorem dX2_partsTogether_18 : decode cX2_partsTogether 18 = .ok (.iaload, 1) := by decide +kernel
theorem dX2_partsTogether_19 : decode cX2_partsTogether 19 = .ok (.invokestatic 31, 3) := by decide +kernel
theorem dX2_partsTogether_22 : decode cX2_partsTogether 22 = .ok (.iadd, 1) := by decide +kernel
theorem dX2_partsTogether_23 : decode cX2_partsTogether 23 = .ok (.istore_n 1, 1) := by decide +kernel
theorem dX2_partsTogether_24 : decode cX2_partsTogether 24 = .ok (.iinc 2 1, 3) := by decide +kernel
theorem dX2_partsTogether_27 : decode cX2_partsTogether 27 = .ok (.goto (-23), 3) := by decide +kernel
theorem dX2_partsTogether_30 : decode cX2_partsTogether 30 = .ok (.iload_n 1, 1) := by decide +kernel
theorem dX2_partsTogether_31 : decode cX2_partsTogether 31 = .ok (.ireturn, 1) := by decide +kernel
theorem dX3_init_0 : decode cX3_init 0 = .ok (.aload_n 0, 1) := by decide +kernel
theorem dX3_init_1 : decode cX3_init 1 = .ok (.invokespecial 3, 3) := by decide +kernel
theorem dX3_init_4 : decode cX3_init 4 = .ok (.aload_n 0, 1) := by decide +kernel
theorem dX3_init_5 : decode cX3_init 5 = .ok (.bipush 6, 2) := by decide +kernel
theorem dX3_init_7 : decode cX3_init 7 = .ok (.newarray .int, 2) := by decide +kernel
theorem dX3_init_9 : decode cX3_init 9 = .ok (.putfield 9, 3) := by decide +kernel
theorem dX3_init_12 : decode cX3_init 12 = .ok (.aload_n 0, 1) := by decide +kernel
theorem dX3_init_13 : decode cX3_init 13 = .ok (.bipush 6, 2) := by decide +kernel
theorem dX3_init_15 : decode cX3_init 15 = .ok (.newarray .int, 2) := by decide +kernel
theorem dX3_init_17 : decode cX3_init 17 = .ok (.putfield 15, 3) := by decide +kernel
theorem dX3_init_20 : decode cX3_init 20 = .ok (.aload_n 0, 1) := by decide +kernel
theorem dX3_init_21 : decode cX3_init 21 = .ok (.bipush 8, 2) := by decide +kernel
theorem dX3_init_23 : decode cX3_init 23 = .ok (.newarray .int, 2) := by decide +kernel
theorem dX3_init_25 : decode cX3_init 25 = .ok (.putfield 18, 3) := by decide +kernel
theorem dX3_init_28 : decode cX3_init 28 = .ok (.aload_n 0, 1) := by decide +kernel
theorem dX3_init_29 : decode cX3_init 29 = .ok (.bipush 8, 2) := by decide +kernel
theorem dX3_init_31 : decode cX3_init 31 = .ok (.newarray .int, 2) := by decide +kernel
theorem dX3_init_33 : decode cX3_init 33 = .ok (.putfield 21, 3) := by decide +kernel
theorem dX3_init_36 : decode cX3_init 36 = .ok (.aload_n 0, 1) := by decide +kernel
theorem dX3_init_37 : decode cX3_init 37 = .ok (.bipush 32, 2) := by decide +kernel
theorem dX3_init_39 : decode cX3_init 39 = .ok (.newarray .int, 2) := by decide +kernel
theorem dX3_init_41 : decode cX3_init 41 = .ok (.putfield 24, 3) := by decide +kernel
theorem dX3_init_44 : decode cX3_init 44 = .ok (.aload_n 0, 1) := by decide +kernel
theorem dX3_init_45 : decode cX3_init 45 = .ok (.bipush 8, 2) := by decide +kernel
theorem dX3_init_47 : decode cX3_init 47 = .ok (.newarray .int, 2) := by decide +kernel
theorem dX3_init_49 : decode cX3_init 49 = .ok (.putfield 27, 3) := by decide +kernel
theorem dX3_init_52 : decode cX3_init 52 = .ok (.aload_n 0, 1) := by decide +kernel
theorem dX3_init_53 : decode cX3_init 53 = .ok (.iconst (-1), 1) := by decide +kernel
theorem dX3_init_54 : decode cX3_init 54 = .ok (.putfield 30, 3) := by decide +kernel
theorem dX3_init_57 : decode cX3_init 57 = .ok (.aload_n 0, 1) := by decide +kernel
theorem dX3_init_58 : decode cX3_init 58 = .ok (.iconst 3, 1) := by decide +kernel
theorem dX3_init_59 : decode cX3_init 59 = .ok (.newarray .int, 2) := by decide +kernel
theorem dX3_init_61 : decode cX3_init 61 = .ok (.putfield 34, 3) := by decide +kernel
theorem dX3_init_64 : decode cX3_init 64 = .ok (.aload_n 0, 1) := by decide +kernel
theorem dX3_init_65 : decode cX3_init 65 = .ok (.iconst 3, 1) := by decide +kernel
theorem dX3_init_66 : decode cX3_init 66 = .ok (.newarray .int, 2) := by decide +kernel
theorem dX3_init_68 : decode cX3_init 68 = .ok (.putfield 37, 3) := by decide +kernel
theorem dX3_init_71 : decode cX3_init 71 = .ok (.aload_n 0, 1) := by decide +kernel
theorem dX3_init_72 : decode cX3_init 72 = .ok (.bipush 8, 2) := by decide +kernel
theorem dX3_init_74 : decode cX3_init 74 = .ok (.newarray .long, 2) := by decide +kernel
theorem dX3_init_76 : decode cX3_init 76 = .ok (.putfield 40, 3) := by decide +kernel
theorem dX3_init_79 : decode cX3_init 79 = .ok (.aload_n 0, 1) := by decide +kernel
theorem dX3_init_80 : decode cX3_init 80 = .ok (.iconst 5, 1) := by decide +kernel
theorem dX3_init_81 : decode cX3_init 81 = .ok (.newarray .long, 2) := by decide +kernel
theorem dX3_init_83 : decode cX3_init 83 = .ok (.putfield 44, 3) := by decide +kernel
theorem dX3_init_86 : decode cX3_init 86 = .ok (.return_, 1) := by decide +kernel
theorem dX3_hasPart_0 : decode cX3_hasPart 0 = .ok (.iload_n 1, 1) := by decide +kernel
theorem dX3_hasPart_1 : decode cX3_hasPart 1 = .ok (.ifCond .lt 15, 3) := by decide +kernel
theorem dX3_hasPart_4 : decode cX3_hasPart 4 = .ok (.iload_n 1, 1) := by decide +kernel
theorem dX3_hasPart_5 : decode cX3_hasPart 5 = .ok (.aload_n 0, 1) := by decide +kernel
theorem dX3_hasPart_6 : decode cX3_hasPart 6 = .ok (.getfield 47, 3) := by decide +kernel
theorem dX3_hasPart_9 : decode cX3_hasPart 9 = .ok (.if_icmp .ge 7, 3) := by decide +kernel
theorem dX3_hasPart_12 : decode cX3_hasPart 12 = .ok (.iconst 1, 1) := by decide +kernel
theorem dX3_hasPart_13 : decode cX3_hasPart 13 = .ok (.goto 4, 3) := by decide +kernel
theorem dX3_hasPart_16 : decode cX3_hasPart 16 = .ok (.iconst 0, 1) := by decide +kernel
theorem dX3_hasPart_17 : decode cX3_hasPart 17 = .ok (.ireturn, 1) := by decide +kernel
theorem dX3_hasPlace_0 : decode cX3_hasPlace 0 = .ok (.aload_n 0, 1) := by decide +kernel
theorem dX3_hasPlace_1 : decode cX3_hasPlace 1 = .ok (.iload_n 1, 1) := by decide +kernel
theorem dX3_hasPlace_2 : decode cX3_hasPlace 2 = .ok (.invokevirtual 50, 3) := by decide +kernel
theorem dX3_hasPlace_5 : decode cX3_hasPlace 5 = .ok (.ireturn, 1) := by decide +kernel
theorem dX3_hasGate_0 : decode cX3_hasGate 0 = .ok (.iload_n 1, 1) := by decide +kernel
theorem dX3_hasGate_1 : decode cX3_hasGate 1 = .ok (.ifCond .lt 15, 3) := by decide +kernel
theorem dX3_hasGate_4 : decode cX3_hasGate 4 = .ok (.iload_n 1, 1) := by decide +kernel
theorem dX3_hasGate_5 : decode cX3_hasGate 5 = .ok (.aload_n 0, 1) := by decide +kernel
theorem dX3_hasGate_6 : decode cX3_hasGate 6 = .ok (.getfield 54, 3) := by decide +kernel
theorem dX3_hasGate_9 : decode cX3_hasGate 9 = .ok (.if_icmp .ge 7, 3) := by decide +kernel
theorem dX3_hasGate_12 : decode cX3_hasGate 12 = .ok (.iconst 1, 1) := by decide +kernel
theorem dX3_hasGate_13 : decode cX3_hasGate 13 = .ok (.goto 4, 3) := by decide +kernel
theorem dX3_hasGate_16 : decode cX3_hasGate 16 = .ok (.iconst 0, 1) := by decide +kernel
theorem dX3_hasGate_17 : decode cX3_hasGate 17 = .ok (.ireturn, 1) := by decide +kernel
theorem dX3_hasCause_0 : decode cX3_hasCause 0 = .ok (.iload_n 1, 1) := by decide +kernel
theorem dX3_hasCause_1 : decode cX3_hasCause 1 = .ok (.ifCond .lt 15, 3) := by decide +kernel
theorem dX3_hasCause_4 : decode cX3_hasCause 4 = .ok (.iload_n 1, 1) := by decide +kernel
theorem dX3_hasCause_5 : decode cX3_hasCause 5 = .ok (.aload_n 0, 1) := by decide +kernel
theorem dX3_hasCause_6 : decode cX3_hasCause 6 = .ok (.getfield 57, 3) := by decide +kernel
theorem dX3_hasCause_9 : decode cX3_hasCause 9 = .ok (.if_icmp .ge 7, 3) := by decide +kernel
theorem dX3_hasCause_12 : decode cX3_hasCause 12 = .ok (.iconst 1, 1) := by decide +kernel
theorem dX3_hasCause_13 : decode cX3_hasCause 13 = .ok (.goto 4, 3) := by decide +kernel
theorem dX3_hasCause_16 : decode cX3_hasCause 16 = .ok (.iconst 0, 1) := by decide +kernel
theorem dX3_hasCause_17 : decode cX3_hasCause 17 = .ok (.ireturn, 1) := by decide +kernel
theorem dX3_hasBits_0 : decode cX3_hasBits 0 = .ok (.iload_n 1, 1) := by decide +kernel
theorem dX3_hasBits_1 : decode cX3_hasBits 1 = .ok (.ifCond .lt 17, 3) := by decide +kernel
theorem dX3_hasBits_4 : decode cX3_hasBits 4 = .ok (.iload_n 1, 1) := by decide +kernel
theorem dX3_hasBits_5 : decode cX3_hasBits 5 = .ok (.iconst 1, 1) := by decide +kernel
theorem dX3_hasBits_6 : decode cX3_hasBits 6 = .ok (.aload_n 0, 1) := by decide +kernel
theorem dX3_hasBits_7 : decode cX3_hasBits 7 = .ok (.getfield 47, 3) := by decide +kernel
theorem dX3_hasBits_10 : decode cX3_hasBits 10 = .ok (.ishl, 1) := by decide +kernel
theorem dX3_hasBits_11 : decode cX3_hasBits 11 = .ok (.if_icmp .ge 7, 3) := by decide +kernel
theorem dX3_hasBits_14 : decode cX3_hasBits 14 = .ok (.iconst 1, 1) := by decide +kernel
theorem dX3_hasBits_15 : decode cX3_hasBits 15 = .ok (.goto 4, 3) := by decide +kernel
theorem dX3_hasBits_18 : decode cX3_hasBits 18 = .ok (.iconst 0, 1) := by decide +kernel
theorem dX3_hasBits_19 : decode cX3_hasBits 19 = .ok (.ireturn, 1) := by decide +kernel
theorem dX3_addPart_0 : decode cX3_addPart 0 = .ok (.aload_n 0, 1) := by decide +kernel
theorem dX3_addPart_1 : decode cX3_addPart 1 = .ok (.getfield 47, 3) := by decide +kernel
theorem dX3_addPart_4 : decode cX3_addPart 4 = .ok (.bipush 6, 2) := by decide +kernel
theorem dX3_addPart_6 : decode cX3_addPart 6 = .ok (.if_icmp .lt 6, 3) := by decide +kernel
theorem dX3_addPart_9 : decode cX3_addPart 9 = .ok (.bipush (-4), 2) := by decide +kernel
theorem dX3_addPart_11 : decode cX3_addPart 11 = .ok (.ireturn, 1) := by decide +kernel
theorem dX3_addPart_12 : decode cX3_addPart 12 = .ok (.aload_n 0, 1) := by decide +kernel
theorem dX3_addPart_13 : decode cX3_addPart 13 = .ok (.getfield 9, 3) := by decide +kernel
theorem dX3_addPart_16 : decode cX3_addPart 16 = .ok (.aload_n 0, 1) := by decide +kernel
theorem dX3_addPart_17 : decode cX3_addPart 17 = .ok (.getfield 47, 3) := by decide +kernel
theorem dX3_addPart_20 : decode cX3_addPart 20 = .ok (.iload_n 1, 1) := by decide +kernel
theorem dX3_addPart_21 : decode cX3_addPart 21 = .ok (.iastore, 1) := by decide +kernel
theorem dX3_addPart_22 : decode cX3_addPart 22 = .ok (.aload_n 0, 1) := by decide +kernel
theorem dX3_addPart_23 : decode cX3_addPart 23 = .ok (.getfield 15, 3) := by decide +kernel
theorem dX3_addPart_26 : decode cX3_addPart 26 = .ok (.aload_n 0, 1) := by decide +kernel
theorem dX3_addPart_27 : decode cX3_addPart 27 = .ok (.getfield 47, 3) := by decide +kernel
theorem dX3_addPart_30 : decode cX3_addPart 30 = .ok (.aload_n 0, 1) := by decide +kernel
theorem dX3_addPart_31 : decode cX3_addPart 31 = .ok (.getfield 47, 3) := by decide +kernel
theorem dX3_addPart_34 : decode cX3_addPart 34 = .ok (.iastore, 1) := by decide +kernel
theorem dX3_addPart_35 : decode cX3_addPart 35 = .ok (.aload_n 0, 1) := by decide +kernel
theorem dX3_addPart_36 : decode cX3_addPart 36 = .ok (.dup, 1) := by decide +kernel
theorem dX3_addPart_37 : decode cX3_addPart 37 = .ok (.getfield 47, 3) := by decide +kernel
theorem dX3_addPart_40 : decode cX3_addPart 40 = .ok (.iconst 1, 1) := by decide +kernel
theorem dX3_addPart_41 : decode cX3_addPart 41 = .ok (.iadd, 1) := by decide +kernel
theorem dX3_addPart_42 : decode cX3_addPart 42 = .ok (.putfield 47, 3) := by decide +kernel
theorem dX3_addPart_45 : decode cX3_addPart 45 = .ok (.aload_n 0, 1) := by decide +kernel
theorem dX3_addPart_46 : decode cX3_addPart 46 = .ok (.getfield 47, 3) := by decide +kernel
theorem dX3_addPart_49 : decode cX3_addPart 49 = .ok (.iconst 1, 1) := by decide +kernel
theorem dX3_addPart_50 : decode cX3_addPart 50 = .ok (.isub, 1) := by decide +kernel
theorem dX3_addPart_51 : decode cX3_addPart 51 = .ok (.ireturn, 1) := by decide +kernel
theorem dX3_addGate_0 : decode cX3_addGate 0 = .ok (.aload_n 0, 1) := by decide +kernel
theorem dX3_addGate_1 : decode cX3_addGate 1 = .ok (.getfield 54, 3) := by decide +kernel
theorem dX3_addGate_4 : decode cX3_addGate 4 = .ok (.bipush 8, 2) := by decide +kernel
theorem dX3_addGate_6 : decode cX3_addGate 6 = .ok (.if_icmp .lt 6, 3) := by decide +kernel
theorem dX3_addGate_9 : decode cX3_addGate 9 = .ok (.bipush (-4), 2) := by decide +kernel
theorem dX3_addGate_11 : decode cX3_addGate 11 = .ok (.ireturn, 1) := by decide +kernel
theorem dX3_addGate_12 : decode cX3_addGate 12 = .ok (.aload_n 0, 1) := by decide +kernel
theorem dX3_addGate_13 : decode cX3_addGate 13 = .ok (.getfield 18, 3) := by decide +kernel
theorem dX3_addGate_16 : decode cX3_addGate 16 = .ok (.aload_n 0, 1) := by decide +kernel
theorem dX3_addGate_17 : decode cX3_addGate 17 = .ok (.getfield 54, 3) := by decide +kernel
theorem dX3_addGate_20 : decode cX3_addGate 20 = .ok (.iload_n 1, 1) := by decide +kernel
theorem dX3_addGate_21 : decode cX3_addGate 21 = .ok (.iastore, 1) := by decide +kernel
theorem dX3_addGate_22 : decode cX3_addGate 22 = .ok (.aload_n 0, 1) := by decide +kernel
theorem dX3_addGate_23 : decode cX3_addGate 23 = .ok (.getfield 21, 3) := by decide +kernel
theorem dX3_addGate_26 : decode cX3_addGate 26 = .ok (.aload_n 0, 1) := by decide +kernel
theorem dX3_addGate_27 : decode cX3_addGate 27 = .ok (.getfield 54, 3) := by decide +kernel
theorem dX3_addGate_30 : decode cX3_addGate 30 = .ok (.iload_n 2, 1) := by decide +kernel
theorem dX3_addGate_31 : decode cX3_addGate 31 = .ok (.iastore, 1) := by decide +kernel
theorem dX3_addGate_32 : decode cX3_addGate 32 = .ok (.aload_n 0, 1) := by decide +kernel
theorem dX3_addGate_33 : decode cX3_addGate 33 = .ok (.getfield 27, 3) := by decide +kernel
theorem dX3_addGate_36 : decode cX3_addGate 36 = .ok (.aload_n 0, 1) := by decide +kernel
theorem dX3_addGate_37 : decode cX3_addGate 37 = .ok (.getfield 54, 3) := by decide +kernel
theorem dX3_addGate_40 : decode cX3_addGate 40 = .ok (.iconst 0, 1) := by decide +kernel
theorem dX3_addGate_41 : decode cX3_addGate 41 = .ok (.iastore, 1) := by decide +kernel
theorem dX3_addGate_42 : decode cX3_addGate 42 = .ok (.aload_n 0, 1) := by decide +kernel
theorem dX3_addGate_43 : decode cX3_addGate 43 = .ok (.dup, 1) := by decide +kernel
theorem dX3_addGate_44 : decode cX3_addGate 44 = .ok (.getfield 54, 3) := by decide +kernel
theorem dX3_addGate_47 : decode cX3_addGate 47 = .ok (.iconst 1, 1) := by decide +kernel
theorem dX3_addGate_48 : decode cX3_addGate 48 = .ok (.iadd, 1) := by decide +kernel
theorem dX3_addGate_49 : decode cX3_addGate 49 = .ok (.putfield 54, 3) := by decide +kernel
theorem dX3_addGate_52 : decode cX3_addGate 52 = .ok (.aload_n 0, 1) := by decide +kernel
theorem dX3_addGate_53 : decode cX3_addGate 53 = .ok (.getfield 54, 3) := by decide +kernel
theorem dX3_addGate_56 : decode cX3_addGate 56 = .ok (.iconst 1, 1) := by decide +kernel
theorem dX3_addGate_57 : decode cX3_addGate 57 = .ok (.isub, 1) := by decide +kernel
theorem dX3_addGate_58 : decode cX3_addGate 58 = .ok (.ireturn, 1) := by decide +kernel
theorem dX3_addInput_0 : decode cX3_addInput 0 = .ok (.aload_n 0, 1) := by decide +kernel
theorem dX3_addInput_1 : decode cX3_addInput 1 = .ok (.getfield 27, 3) := by decide +kernel
theorem dX3_addInput_4 : decode cX3_addInput 4 = .ok (.iload_n 1, 1) := by decide +kernel
theorem dX3_addInput_5 : decode cX3_addInput 5 = .ok (.iaload, 1) := by decide +kernel
theorem dX3_addInput_6 : decode cX3_addInput 6 = .ok (.istore_n 3, 1) := by decide +kernel
theorem dX3_addInput_7 : decode cX3_addInput 7 = .ok (.iload_n 3, 1) := by decide +kernel
theorem dX3_addInput_8 : decode cX3_addInput 8 = .ok (.iconst 4, 1) := by decide +kernel
theorem dX3_addInput_9 : decode cX3_addInput 9 = .ok (.if_icmp .lt 6, 3) := by decide +kernel
theorem dX3_addInput_12 : decode cX3_addInput 12 = .ok (.bipush (-4), 2) := by decide +kernel
theorem dX3_addInput_14 : decode cX3_addInput 14 = .ok (.ireturn, 1) := by decide +kernel
theorem dX3_addInput_15 : decode cX3_addInput 15 = .ok (.aload_n 0, 1) := by decide +kernel
theorem dX3_addInput_16 : decode cX3_addInput 16 = .ok (.getfield 24, 3) := by decide +kernel
theorem dX3_addInput_19 : decode cX3_addInput 19 = .ok (.iload_n 1, 1) := by decide +kernel
theorem dX3_addInput_20 : decode cX3_addInput 20 = .ok (.iconst 4, 1) := by decide +kernel
theorem dX3_addInput_21 : decode cX3_addInput 21 = .ok (.imul, 1) := by decide +kernel
theorem dX3_addInput_22 : decode cX3_addInput 22 = .ok (.iload_n 3, 1) := by decide +kernel
theorem dX3_addInput_23 : decode cX3_addInput 23 = .ok (.iadd, 1) := by decide +kernel
theorem dX3_addInput_24 : decode cX3_addInput 24 = .ok (.iload_n 2, 1) := by decide +kernel
theorem dX3_addInput_25 : decode cX3_addInput 25 = .ok (.iastore, 1) := by decide +kernel
theorem dX3_addInput_26 : decode cX3_addInput 26 = .ok (.aload_n 0, 1) := by decide +kernel
theorem dX3_addInput_27 : decode cX3_addInput 27 = .ok (.getfield 27, 3) := by decide +kernel
theorem dX3_addInput_30 : decode cX3_addInput 30 = .ok (.iload_n 1, 1) := by decide +kernel
theorem dX3_addInput_31 : decode cX3_addInput 31 = .ok (.iload_n 3, 1) := by decide +kernel
theorem dX3_addInput_32 : decode cX3_addInput 32 = .ok (.iconst 1, 1) := by decide +kernel
theorem dX3_addInput_33 : decode cX3_addInput 33 = .ok (.iadd, 1) := by decide +kernel
theorem dX3_addInput_34 : decode cX3_addInput 34 = .ok (.iastore, 1) := by decide +kernel
theorem dX3_addInput_35 : decode cX3_addInput 35 = .ok (.iload_n 3, 1) := by decide +kernel
theorem dX3_addInput_36 : decode cX3_addInput 36 = .ok (.iconst 1, 1) := by decide +kernel
theorem dX3_addInput_37 : decode cX3_addInput 37 = .ok (.iadd, 1) := by decide +kernel
theorem dX3_addInput_38 : decode cX3_addInput 38 = .ok (.ireturn, 1) := by decide +kernel
theorem dX3_addCause_0 : decode cX3_addCause 0 = .ok (.aload_n 0, 1) := by decide +kernel
theorem dX3_addCause_1 : decode cX3_addCause 1 = .ok (.getfield 57, 3) := by decide +kernel
theorem dX3_addCause_4 : decode cX3_addCause 4 = .ok (.iconst 3, 1) := by decide +kernel
theorem dX3_addCause_5 : decode cX3_addCause 5 = .ok (.if_icmp .lt 6, 3) := by decide +kernel
theorem dX3_addCause_8 : decode cX3_addCause 8 = .ok (.bipush (-4), 2) := by decide +kernel
theorem dX3_addCause_10 : decode cX3_addCause 10 = .ok (.ireturn, 1) := by decide +kernel
theorem dX3_addCause_11 : decode cX3_addCause 11 = .ok (.aload_n 0, 1) := by decide +kernel
theorem dX3_addCause_12 : decode cX3_addCause 12 = .ok (.getfield 34, 3) := by decide +kernel
theorem dX3_addCause_15 : decode cX3_addCause 15 = .ok (.aload_n 0, 1) := by decide +kernel
theorem dX3_addCause_16 : decode cX3_addCause 16 = .ok (.getfield 57, 3) := by decide +kernel
theorem dX3_addCause_19 : decode cX3_addCause 19 = .ok (.iload_n 1, 1) := by decide +kernel
theorem dX3_addCause_20 : decode cX3_addCause 20 = .ok (.iastore, 1) := by decide +kernel
theorem dX3_addCause_21 : decode cX3_addCause 21 = .ok (.aload_n 0, 1) := by decide +kernel
theorem dX3_addCause_22 : decode cX3_addCause 22 = .ok (.getfield 37, 3) := by decide +kernel
theorem dX3_addCause_25 : decode cX3_addCause 25 = .ok (.aload_n 0, 1) := by decide +kernel
theorem dX3_addCause_26 : decode cX3_addCause 26 = .ok (.getfield 57, 3) := by decide +kernel
theorem dX3_addCause_29 : decode cX3_addCause 29 = .ok (.iload_n 2, 1) := by decide +kernel
theorem dX3_addCause_30 : decode cX3_addCause 30 = .ok (.iastore, 1) := by decide +kernel
theorem dX3_addCause_31 : decode cX3_addCause 31 = .ok (.aload_n 0, 1) := by decide +kernel
theorem dX3_addCause_32 : decode cX3_addCause 32 = .ok (.dup, 1) := by decide +kernel
theorem dX3_addCause_33 : decode cX3_addCause 33 = .ok (.getfield 57, 3) := by decide +kernel
theorem dX3_addCause_36 : decode cX3_addCause 36 = .ok (.iconst 1, 1) := by decide +kernel
theorem dX3_addCause_37 : decode cX3_addCause 37 = .ok (.iadd, 1) := by decide +kernel
theorem dX3_addCause_38 : decode cX3_addCause 38 = .ok (.putfield 57, 3) := by decide +kernel
theorem dX3_addCause_41 : decode cX3_addCause 41 = .ok (.aload_n 0, 1) := by decide +kernel
theorem dX3_addCause_42 : decode cX3_addCause 42 = .ok (.getfield 57, 3) := by decide +kernel
theorem dX3_addCause_45 : decode cX3_addCause 45 = .ok (.iconst 1, 1) := by decide +kernel
theorem dX3_addCause_46 : decode cX3_addCause 46 = .ok (.isub, 1) := by decide +kernel
theorem dX3_addCause_47 : decode cX3_addCause 47 = .ok (.ireturn, 1) := by decide +kernel
theorem dX3_ofPart_0 : decode cX3_ofPart 0 = .ok (.aload_n 0, 1) := by decide +kernel
theorem dX3_ofPart_1 : decode cX3_ofPart 1 = .ok (.iload_n 1, 1) := by decide +kernel
theorem dX3_ofPart_2 : decode cX3_ofPart 2 = .ok (.invokevirtual 50, 3) := by decide +kernel
theorem dX3_ofPart_5 : decode cX3_ofPart 5 = .ok (.ifCond .ne 5, 3) := by decide +kernel
theorem dX3_ofPart_8 : decode cX3_ofPart 8 = .ok (.iconst (-1), 1) := by decide +kernel
theorem dX3_ofPart_9 : decode cX3_ofPart 9 = .ok (.ireturn, 1) := by decide +kernel
theorem dX3_ofPart_10 : decode cX3_ofPart 10 = .ok (.iload_n 2, 1) := by decide +kernel
theorem dX3_ofPart_11 : decode cX3_ofPart 11 = .ok (.lookupswitch 38 #[(0, 25), (1, 32)], 25) := by decide +kernel
theorem dX3_ofPart_36 : decode cX3_ofPart 36 = .ok (.aload_n 0, 1) := by decide +kernel
theorem dX3_ofPart_37 : decode cX3_ofPart 37 = .ok (.getfield 9, 3) := by decide +kernel
theorem dX3_ofPart_40 : decode cX3_ofPart 40 = .ok (.iload_n 1, 1) := by decide +kernel
theorem dX3_ofPart_41 : decode cX3_ofPart 41 = .ok (.iaload, 1) := by decide +kernel
theorem dX3_ofPart_42 : decode cX3_ofPart 42 = .ok (.ireturn, 1) := by decide +kernel
theorem dX3_ofPart_43 : decode cX3_ofPart 43 = .ok (.aload_n 0, 1) := by decide +kernel
theorem dX3_ofPart_44 : decode cX3_ofPart 44 = .ok (.iload_n 1, 1) := by decide +kernel
theorem dX3_ofPart_45 : decode cX3_ofPart 45 = .ok (.invokevirtual 60, 3) := by decide +kernel
theorem dX3_ofPart_48 : decode cX3_ofPart 48 = .ok (.ireturn, 1) := by decide +kernel
theorem dX3_ofPart_49 : decode cX3_ofPart 49 = .ok (.iconst (-1), 1) := by decide +kernel
theorem dX3_ofPart_50 : decode cX3_ofPart 50 = .ok (.ireturn, 1) := by decide +kernel
theorem dX3_ofGate_0 : decode cX3_ofGate 0 = .ok (.aload_n 0, 1) := by decide +kernel
theorem dX3_ofGate_1 : decode cX3_ofGate 1 = .ok (.iload_n 1, 1) := by decide +kernel
theorem dX3_ofGate_2 : decode cX3_ofGate 2 = .ok (.invokevirtual 64, 3) := by decide +kernel
theorem dX3_ofGate_5 : decode cX3_ofGate 5 = .ok (.ifCond .eq 13, 3) := by decide +kernel
theorem dX3_ofGate_8 : decode cX3_ofGate 8 = .ok (.iload_n 2, 1) := by decide +kernel
theorem dX3_ofGate_9 : decode cX3_ofGate 9 = .ok (.ifCond .lt 9, 3) := by decide +kernel
theorem dX3_ofGate_12 : decode cX3_ofGate 12 = .ok (.iload_n 2, 1) := by decide +kernel
theorem dX3_ofGate_13 : decode cX3_ofGate 13 = .ok (.bipush 7, 2) := by decide +kernel
theorem dX3_ofGate_15 : decode cX3_ofGate 15 = .ok (.if_icmp .lt 5, 3) := by decide +kernel
theorem dX3_ofGate_18 : decode cX3_ofGate 18 = .ok (.iconst (-1), 1) := by decide +kernel
theorem dX3_ofGate_19 : decode cX3_ofGate 19 = .ok (.ireturn, 1) := by decide +kernel
theorem dX3_ofGate_20 : decode cX3_ofGate 20 = .ok (.iload_n 2, 1) := by decide +kernel
theorem dX3_ofGate_21 : decode cX3_ofGate 21 = .ok (.tableswitch 48 0 2 #[27, 34, 41], 27) := by decide +kernel
theorem dX3_ofGate_48 : decode cX3_ofGate 48 = .ok (.aload_n 0, 1) := by decide +kernel
theorem dX3_ofGate_49 : decode cX3_ofGate 49 = .ok (.getfield 18, 3) := by decide +kernel
theorem dX3_ofGate_52 : decode cX3_ofGate 52 = .ok (.iload_n 1, 1) := by decide +kernel
theorem dX3_ofGate_53 : decode cX3_ofGate 53 = .ok (.iaload, 1) := by decide +kernel
theorem dX3_ofGate_54 : decode cX3_ofGate 54 = .ok (.ireturn, 1) := by decide +kernel
theorem dX3_ofGate_55 : decode cX3_ofGate 55 = .ok (.aload_n 0, 1) := by decide +kernel
theorem dX3_ofGate_56 : decode cX3_ofGate 56 = .ok (.getfield 21, 3) := by decide +kernel
theorem dX3_ofGate_59 : decode cX3_ofGate 59 = .ok (.iload_n 1, 1) := by decide +kernel
theorem dX3_ofGate_60 : decode cX3_ofGate 60 = .ok (.iaload, 1) := by decide +kernel
theorem dX3_ofGate_61 : decode cX3_ofGate 61 = .ok (.ireturn, 1) := by decide +kernel
theorem dX3_ofGate_62 : decode cX3_ofGate 62 = .ok (.aload_n 0, 1) := by decide +kernel
theorem dX3_ofGate_63 : decode cX3_ofGate 63 = .ok (.getfield 27, 3) := by decide +kernel
theorem dX3_ofGate_66 : decode cX3_ofGate 66 = .ok (.iload_n 1, 1) := by decide +kernel
theorem dX3_ofGate_67 : decode cX3_ofGate 67 = .ok (.iaload, 1) := by decide +kernel
theorem dX3_ofGate_68 : decode cX3_ofGate 68 = .ok (.ireturn, 1) := by decide +kernel
theorem dX3_ofGate_69 : decode cX3_ofGate 69 = .ok (.iload_n 2, 1) := by decide +kernel
theorem dX3_ofGate_70 : decode cX3_ofGate 70 = .ok (.iconst 3, 1) := by decide +kernel
theorem dX3_ofGate_71 : decode cX3_ofGate 71 = .ok (.isub, 1) := by decide +kernel
theorem dX3_ofGate_72 : decode cX3_ofGate 72 = .ok (.istore_n 3, 1) := by decide +kernel
theorem dX3_ofGate_73 : decode cX3_ofGate 73 = .ok (.iload_n 3, 1) := by decide +kernel
theorem dX3_ofGate_74 : decode cX3_ofGate 74 = .ok (.aload_n 0, 1) := by decide +kernel
theorem dX3_ofGate_75 : decode cX3_ofGate 75 = .ok (.getfield 27, 3) := by decide +kernel
theorem dX3_ofGate_78 : decode cX3_ofGate 78 = .ok (.iload_n 1, 1) := by decide +kernel
theorem dX3_ofGate_79 : decode cX3_ofGate 79 = .ok (.iaload, 1) := by decide +kernel
theorem dX3_ofGate_80 : decode cX3_ofGate 80 = .ok (.if_icmp .ge 16, 3) := by decide +kernel
theorem dX3_ofGate_83 : decode cX3_ofGate 83 = .ok (.aload_n 0, 1) := by decide +kernel
theorem dX3_ofGate_84 : decode cX3_ofGate 84 = .ok (.getfield 24, 3) := by decide +kernel
theorem dX3_ofGate_87 : decode cX3_ofGate 87 = .ok (.iload_n 1, 1) := by decide +kernel
theorem dX3_ofGate_88 : decode cX3_ofGate 88 = .ok (.iconst 4, 1) := by decide +kernel
theorem dX3_ofGate_89 : decode cX3_ofGate 89 = .ok (.imul, 1) := by decide +kernel
theorem dX3_ofGate_90 : decode cX3_ofGate 90 = .ok (.iload_n 3, 1) := by decide +kernel
theorem dX3_ofGate_91 : decode cX3_ofGate 91 = .ok (.iadd, 1) := by decide +kernel
theorem dX3_ofGate_92 : decode cX3_ofGate 92 = .ok (.iaload, 1) := by decide +kernel
theorem dX3_ofGate_93 : decode cX3_ofGate 93 = .ok (.goto 4, 3) := by decide +kernel
theorem dX3_ofGate_96 : decode cX3_ofGate 96 = .ok (.iconst (-1), 1) := by decide +kernel
theorem dX3_ofGate_97 : decode cX3_ofGate 97 = .ok (.ireturn, 1) := by decide +kernel
theorem dX3_ofCause_0 : decode cX3_ofCause 0 = .ok (.aload_n 0, 1) := by decide +kernel
theorem dX3_ofCause_1 : decode cX3_ofCause 1 = .ok (.iload_n 1, 1) := by decide +kernel
theorem dX3_ofCause_2 : decode cX3_ofCause 2 = .ok (.invokevirtual 67, 3) := by decide +kernel
theorem dX3_ofCause_5 : decode cX3_ofCause 5 = .ok (.ifCond .ne 5, 3) := by decide +kernel
theorem dX3_ofCause_8 : decode cX3_ofCause 8 = .ok (.iconst (-1), 1) := by decide +kernel
theorem dX3_ofCause_9 : decode cX3_ofCause 9 = .ok (.ireturn, 1) := by decide +kernel
theorem dX3_ofCause_10 : decode cX3_ofCause 10 = .ok (.iload_n 2, 1) := by decide +kernel
theorem dX3_ofCause_11 : decode cX3_ofCause 11 = .ok (.lookupswitch 39 #[(0, 25), (1, 32)], 25) := by decide +kernel
theorem dX3_ofCause_36 : decode cX3_ofCause 36 = .ok (.aload_n 0, 1) := by decide +kernel
theorem dX3_ofCause_37 : decode cX3_ofCause 37 = .ok (.getfield 34, 3) := by decide +kernel
theorem dX3_ofCause_40 : decode cX3_ofCause 40 = .ok (.iload_n 1, 1) := by decide +kernel
theorem dX3_ofCause_41 : decode cX3_ofCause 41 = .ok (.iaload, 1) := by decide +kernel
theorem dX3_ofCause_42 : decode cX3_ofCause 42 = .ok (.ireturn, 1) := by decide +kernel
theorem dX3_ofCause_43 : decode cX3_ofCause 43 = .ok (.aload_n 0, 1) := by decide +kernel
theorem dX3_ofCause_44 : decode cX3_ofCause 44 = .ok (.getfield 37, 3) := by decide +kernel
theorem dX3_ofCause_47 : decode cX3_ofCause 47 = .ok (.iload_n 1, 1) := by decide +kernel
theorem dX3_ofCause_48 : decode cX3_ofCause 48 = .ok (.iaload, 1) := by decide +kernel
theorem dX3_ofCause_49 : decode cX3_ofCause 49 = .ok (.ireturn, 1) := by decide +kernel
theorem dX3_ofCause_50 : decode cX3_ofCause 50 = .ok (.iconst (-1), 1) := by decide +kernel
theorem dX3_ofCause_51 : decode cX3_ofCause 51 = .ok (.ireturn, 1) := by decide +kernel
theorem dX3_topGate_0 : decode cX3_topGate 0 = .ok (.aload_n 0, 1) := by decide +kernel
theorem dX3_topGate_1 : decode cX3_topGate 1 = .ok (.getfield 54, 3) := by decide +kernel
theorem dX3_topGate_4 : decode cX3_topGate 4 = .ok (.ifCond .ne 6, 3) := by decide +kernel
theorem dX3_topGate_7 : decode cX3_topGate 7 = .ok (.bipush (-5), 2) := by decide +kernel
theorem dX3_topGate_9 : decode cX3_topGate 9 = .ok (.ireturn, 1) := by decide +kernel
theorem dX3_topGate_10 : decode cX3_topGate 10 = .ok (.aload_n 0, 1) := by decide +kernel
theorem dX3_topGate_11 : decode cX3_topGate 11 = .ok (.getfield 30, 3) := by decide +kernel
theorem dX3_topGate_14 : decode cX3_topGate 14 = .ok (.iconst (-1), 1) := by decide +kernel
theorem dX3_topGate_15 : decode cX3_topGate 15 = .ok (.if_icmp .ne 12, 3) := by decide +kernel
theorem dX3_topGate_18 : decode cX3_topGate 18 = .ok (.aload_n 0, 1) := by decide +kernel
theorem dX3_topGate_19 : decode cX3_topGate 19 = .ok (.getfield 54, 3) := by decide +kernel
theorem dX3_topGate_22 : decode cX3_topGate 22 = .ok (.iconst 1, 1) := by decide +kernel
theorem dX3_topGate_23 : decode cX3_topGate 23 = .ok (.isub, 1) := by decide +kernel
theorem dX3_topGate_24 : decode cX3_topGate 24 = .ok (.goto 7, 3) := by decide +kernel
theorem dX3_topGate_27 : decode cX3_topGate 27 = .ok (.aload_n 0, 1) := by decide +kernel
theorem dX3_topGate_28 : decode cX3_topGate 28 = .ok (.getfield 30, 3) := by decide +kernel
theorem dX3_topGate_31 : decode cX3_topGate 31 = .ok (.ireturn, 1) := by decide +kernel
theorem dX3_placeOf_0 : decode cX3_placeOf 0 = .ok (.iconst 0, 1) := by decide +kernel
theorem dX3_placeOf_1 : decode cX3_placeOf 1 = .ok (.istore_n 2, 1) := by decide +kernel
theorem dX3_placeOf_2 : decode cX3_placeOf 2 = .ok (.iload_n 2, 1) := by decide +kernel
theorem dX3_placeOf_3 : decode cX3_placeOf 3 = .ok (.aload_n 0, 1) := by decide +kernel
theorem dX3_placeOf_4 : decode cX3_placeOf 4 = .ok (.getfield 47, 3) := by decide +kernel
theorem dX3_placeOf_7 : decode cX3_placeOf 7 = .ok (.if_icmp .ge 21, 3) := by decide +kernel
theorem dX3_placeOf_10 : decode cX3_placeOf 10 = .ok (.aload_n 0, 1) := by decide +kernel
theorem dX3_placeOf_11 : decode cX3_placeOf 11 = .ok (.getfield 15, 3) := by decide +kernel
theorem dX3_placeOf_14 : decode cX3_placeOf 14 = .ok (.iload_n 2, 1) := by decide +kernel
theorem dX3_placeOf_15 : decode cX3_placeOf 15 = .ok (.iaload, 1) := by decide +kernel
theorem dX3_placeOf_16 : decode cX3_placeOf 16 = .ok (.iload_n 1, 1) := by decide +kernel
theorem dX3_placeOf_17 : decode cX3_placeOf 17 = .ok (.if_icmp .ne 5, 3) := by decide +kernel
theorem dX3_placeOf_20 : decode cX3_placeOf 20 = .ok (.iload_n 2, 1) := by decide +kernel
theorem dX3_placeOf_21 : decode cX3_placeOf 21 = .ok (.ireturn, 1) := by decide +kernel
theorem dX3_placeOf_22 : decode cX3_placeOf 22 = .ok (.iinc 2 1, 3) := by decide +kernel
theorem dX3_placeOf_25 : decode cX3_placeOf 25 = .ok (.goto (-23), 3) := by decide +kernel
theorem dX3_placeOf_28 : decode cX3_placeOf 28 = .ok (.iconst (-1), 1) := by decide +kernel
theorem dX3_placeOf_29 : decode cX3_placeOf 29 = .ok (.ireturn, 1) := by decide +kernel
theorem dX3_putAt_0 : decode cX3_putAt 0 = .ok (.aload_n 0, 1) := by decide +kernel
theorem dX3_putAt_1 : decode cX3_putAt 1 = .ok (.iload_n 1, 1) := by decide +kernel
theorem dX3_putAt_2 : decode cX3_putAt 2 = .ok (.invokevirtual 60, 3) := by decide +kernel
theorem dX3_putAt_5 : decode cX3_putAt 5 = .ok (.istore_n 3, 1) := by decide +kernel
theorem dX3_putAt_6 : decode cX3_putAt 6 = .ok (.iload_n 3, 1) := by decide +kernel
theorem dX3_putAt_7 : decode cX3_putAt 7 = .ok (.istore 4, 2) := by decide +kernel
theorem dX3_putAt_9 : decode cX3_putAt 9 = .ok (.iload 4, 2) := by decide +kernel
theorem dX3_putAt_11 : decode cX3_putAt 11 = .ok (.ifCond .lt 31, 3) := by decide +kernel
theorem dX3_putAt_14 : decode cX3_putAt 14 = .ok (.iload 4, 2) := by decide +kernel
theorem dX3_putAt_16 : decode cX3_putAt 16 = .ok (.iload_n 2, 1) := by decide +kernel
theorem dX3_putAt_17 : decode cX3_putAt 17 = .ok (.if_icmp .ge 25, 3) := by decide +kernel
theorem dX3_putAt_20 : decode cX3_putAt 20 = .ok (.aload_n 0, 1) := by decide +kernel
theorem dX3_putAt_21 : decode cX3_putAt 21 = .ok (.getfield 15, 3) := by decide +kernel
theorem dX3_putAt_24 : decode cX3_putAt 24 = .ok (.iload 4, 2) := by decide +kernel
theorem dX3_putAt_26 : decode cX3_putAt 26 = .ok (.aload_n 0, 1) := by decide +kernel
theorem dX3_putAt_27 : decode cX3_putAt 27 = .ok (.getfield 15, 3) := by decide +kernel
theorem dX3_putAt_30 : decode cX3_putAt 30 = .ok (.iload 4, 2) := by decide +kernel
theorem dX3_putAt_32 : decode cX3_putAt 32 = .ok (.iconst 1, 1) := by decide +kernel
theorem dX3_putAt_33 : decode cX3_putAt 33 = .ok (.iadd, 1) := by decide +kernel
theorem dX3_putAt_34 : decode cX3_putAt 34 = .ok (.iaload, 1) := by decide +kernel
theorem dX3_putAt_35 : decode cX3_putAt 35 = .ok (.iastore, 1) := by decide +kernel
theorem dX3_putAt_36 : decode cX3_putAt 36 = .ok (.iinc 4 1, 3) := by decide +kernel
theorem dX3_putAt_39 : decode cX3_putAt 39 = .ok (.goto (-30), 3) := by decide +kernel
theorem dX3_putAt_42 : decode cX3_putAt 42 = .ok (.iload_n 3, 1) := by decide +kernel
theorem dX3_putAt_43 : decode cX3_putAt 43 = .ok (.istore 4, 2) := by decide +kernel
theorem dX3_putAt_45 : decode cX3_putAt 45 = .ok (.iload 4, 2) := by decide +kernel
theorem dX3_putAt_47 : decode cX3_putAt 47 = .ok (.iload_n 2, 1) := by decide +kernel
theorem dX3_putAt_48 : decode cX3_putAt 48 = .ok (.if_icmp .le 25, 3) := by decide +kernel
theorem dX3_putAt_51 : decode cX3_putAt 51 = .ok (.aload_n 0, 1) := by decide +kernel
theorem dX3_putAt_52 : decode cX3_putAt 52 = .ok (.getfield 15, 3) := by decide +kernel
theorem dX3_putAt_55 : decode cX3_putAt 55 = .ok (.iload 4, 2) := by decide +kernel
theorem dX3_putAt_57 : decode cX3_putAt 57 = .ok (.aload_n 0, 1) := by decide +kernel
theorem dX3_putAt_58 : decode cX3_putAt 58 = .ok (.getfield 15, 3) := by decide +kernel
theorem dX3_putAt_61 : decode cX3_putAt 61 = .ok (.iload 4, 2) := by decide +kernel
theorem dX3_putAt_63 : decode cX3_putAt 63 = .ok (.iconst 1, 1) := by decide +kernel
theorem dX3_putAt_64 : decode cX3_putAt 64 = .ok (.isub, 1) := by decide +kernel
theorem dX3_putAt_65 : decode cX3_putAt 65 = .ok (.iaload, 1) := by decide +kernel
theorem dX3_putAt_66 : decode cX3_putAt 66 = .ok (.iastore, 1) := by decide +kernel
theorem dX3_putAt_67 : decode cX3_putAt 67 = .ok (.iinc 4 (-1), 3) := by decide +kernel
theorem dX3_putAt_70 : decode cX3_putAt 70 = .ok (.goto (-25), 3) := by decide +kernel
theorem dX3_putAt_73 : decode cX3_putAt 73 = .ok (.aload_n 0, 1) := by decide +kernel
theorem dX3_putAt_74 : decode cX3_putAt 74 = .ok (.getfield 15, 3) := by decide +kernel
theorem dX3_putAt_77 : decode cX3_putAt 77 = .ok (.iload_n 2, 1) := by decide +kernel
theorem dX3_putAt_78 : decode cX3_putAt 78 = .ok (.iload_n 1, 1) := by decide +kernel
theorem dX3_putAt_79 : decode cX3_putAt 79 = .ok (.iastore, 1) := by decide +kernel
theorem dX3_putAt_80 : decode cX3_putAt 80 = .ok (.iload_n 3, 1) := by decide +kernel
theorem dX3_putAt_81 : decode cX3_putAt 81 = .ok (.ireturn, 1) := by decide +kernel
theorem dX3_undergo_0 : decode cX3_undergo 0 = .ok (.iload_n 1, 1) := by decide +kernel
theorem dX3_undergo_1 : decode cX3_undergo 1 = .ok (.tableswitch 58 0 2 #[27, 37, 48], 27) := by decide +kernel
theorem dX3_undergo_28 : decode cX3_undergo 28 = .ok (.aload_n 0, 1) := by decide +kernel
theorem dX3_undergo_29 : decode cX3_undergo 29 = .ok (.getfield 9, 3) := by decide +kernel
theorem dX3_undergo_32 : decode cX3_undergo 32 = .ok (.iload_n 2, 1) := by decide +kernel
theorem dX3_undergo_33 : decode cX3_undergo 33 = .ok (.iconst 0, 1) := by decide +kernel
theorem dX3_undergo_34 : decode cX3_undergo 34 = .ok (.iastore, 1) := by decide +kernel
theorem dX3_undergo_35 : decode cX3_undergo 35 = .ok (.goto 31, 3) := by decide +kernel
theorem dX3_undergo_38 : decode cX3_undergo 38 = .ok (.aload_n 0, 1) := by decide +kernel
theorem dX3_undergo_39 : decode cX3_undergo 39 = .ok (.getfield 9, 3) := by decide +kernel
theorem dX3_undergo_42 : decode cX3_undergo 42 = .ok (.iload_n 2, 1) := by decide +kernel
theorem dX3_undergo_43 : decode cX3_undergo 43 = .ok (.bipush 100, 2) := by decide +kernel
theorem dX3_undergo_45 : decode cX3_undergo 45 = .ok (.iastore, 1) := by decide +kernel
theorem dX3_undergo_46 : decode cX3_undergo 46 = .ok (.goto 20, 3) := by decide +kernel
theorem dX3_undergo_49 : decode cX3_undergo 49 = .ok (.aload_n 0, 1) := by decide +kernel
theorem dX3_undergo_50 : decode cX3_undergo 50 = .ok (.getfield 18, 3) := by decide +kernel
theorem dX3_undergo_53 : decode cX3_undergo 53 = .ok (.iload_n 2, 1) := by decide +kernel
theorem dX3_undergo_54 : decode cX3_undergo 54 = .ok (.iconst 0, 1) := by decide +kernel
theorem dX3_undergo_55 : decode cX3_undergo 55 = .ok (.iastore, 1) := by decide +kernel
theorem dX3_undergo_56 : decode cX3_undergo 56 = .ok (.goto 10, 3) := by decide +kernel
theorem dX3_undergo_59 : decode cX3_undergo 59 = .ok (.aload_n 0, 1) := by decide +kernel
theorem dX3_undergo_60 : decode cX3_undergo 60 = .ok (.getfield 18, 3) := by decide +kernel
theorem dX3_undergo_63 : decode cX3_undergo 63 = .ok (.iload_n 2, 1) := by decide +kernel
theorem dX3_undergo_64 : decode cX3_undergo 64 = .ok (.iconst 1, 1) := by decide +kernel
theorem dX3_undergo_65 : decode cX3_undergo 65 = .ok (.iastore, 1) := by decide +kernel
theorem dX3_undergo_66 : decode cX3_undergo 66 = .ok (.return_, 1) := by decide +kernel
theorem dX3_topTable_0 : decode cX3_topTable 0 = .ok (.aload_n 0, 1) := by decide +kernel
theorem dX3_topTable_1 : decode cX3_topTable 1 = .ok (.aload_n 0, 1) := by decide +kernel
theorem dX3_topTable_2 : decode cX3_topTable 2 = .ok (.invokevirtual 70, 3) := by decide +kernel
theorem dX3_topTable_5 : decode cX3_topTable 5 = .ok (.invokevirtual 74, 3) := by decide +kernel
theorem dX3_topTable_8 : decode cX3_topTable 8 = .ok (.lreturn, 1) := by decide +kernel
theorem dX3_tableOf_0 : decode cX3_tableOf 0 = .ok (.aload_n 0, 1) := by decide +kernel
theorem dX3_tableOf_1 : decode cX3_tableOf 1 = .ok (.iload_n 1, 1) := by decide +kernel
theorem dX3_tableOf_2 : decode cX3_tableOf 2 = .ok (.invokevirtual 64, 3) := by decide +kernel
theorem dX3_tableOf_5 : decode cX3_tableOf 5 = .ok (.ifCond .ne 5, 3) := by decide +kernel
theorem dX3_tableOf_8 : decode cX3_tableOf 8 = .ok (.lconst 0, 1) := by decide +kernel
theorem dX3_tableOf_9 : decode cX3_tableOf 9 = .ok (.lreturn, 1) := by decide +kernel
theorem dX3_tableOf_10 : decode cX3_tableOf 10 = .ok (.iconst 0, 1) := by decide +kernel
theorem dX3_tableOf_11 : decode cX3_tableOf 11 = .ok (.istore_n 2, 1) := by decide +kernel
theorem dX3_tableOf_12 : decode cX3_tableOf 12 = .ok (.iload_n 2, 1) := by decide +kernel
theorem dX3_tableOf_13 : decode cX3_tableOf 13 = .ok (.iload_n 1, 1) := by decide +kernel
theorem dX3_tableOf_14 : decode cX3_tableOf 14 = .ok (.if_icmp .gt 20, 3) := by decide +kernel
theorem dX3_tableOf_17 : decode cX3_tableOf 17 = .ok (.aload_n 0, 1) := by decide +kernel
theorem dX3_tableOf_18 : decode cX3_tableOf 18 = .ok (.getfield 40, 3) := by decide +kernel
theorem dX3_tableOf_21 : decode cX3_tableOf 21 = .ok (.iload_n 2, 1) := by decide +kernel
theorem dX3_tableOf_22 : decode cX3_tableOf 22 = .ok (.aload_n 0, 1) := by decide +kernel
theorem dX3_tableOf_23 : decode cX3_tableOf 23 = .ok (.iload_n 2, 1) := by decide +kernel
theorem dX3_tableOf_24 : decode cX3_tableOf 24 = .ok (.invokevirtual 78, 3) := by decide +kernel
theorem dX3_tableOf_27 : decode cX3_tableOf 27 = .ok (.lastore, 1) := by decide +kernel
theorem dX3_tableOf_28 : decode cX3_tableOf 28 = .ok (.iinc 2 1, 3) := by decide +kernel
theorem dX3_tableOf_31 : decode cX3_tableOf 31 = .ok (.goto (-19), 3) := by decide +kernel
theorem dX3_tableOf_34 : decode cX3_tableOf 34 = .ok (.aload_n 0, 1) := by decide +kernel
theorem dX3_tableOf_35 : decode cX3_tableOf 35 = .ok (.getfield 40, 3) := by decide +kernel
theorem dX3_tableOf_38 : decode cX3_tableOf 38 = .ok (.iload_n 1, 1) := by decide +kernel
theorem dX3_tableOf_39 : decode cX3_tableOf 39 = .ok (.laload, 1) := by decide +kernel
theorem dX3_tableOf_40 : decode cX3_tableOf 40 = .ok (.lreturn, 1) := by decide +kernel
theorem dX3_gateTable_0 : decode cX3_gateTable 0 = .ok (.aload_n 0, 1) := by decide +kernel
theorem dX3_gateTable_1 : decode cX3_gateTable 1 = .ok (.getfield 27, 3) := by decide +kernel
theorem dX3_gateTable_4 : decode cX3_gateTable 4 = .ok (.iload_n 1, 1) := by decide +kernel
theorem dX3_gateTable_5 : decode cX3_gateTable 5 = .ok (.iaload, 1) := by decide +kernel
theorem dX3_gateTable_6 : decode cX3_gateTable 6 = .ok (.istore_n 2, 1) := by decide +kernel
theorem dX3_gateTable_7 : decode cX3_gateTable 7 = .ok (.aload_n 0, 1) := by decide +kernel
theorem dX3_gateTable_8 : decode cX3_gateTable 8 = .ok (.iload_n 1, 1) := by decide +kernel
theorem dX3_gateTable_9 : decode cX3_gateTable 9 = .ok (.iload_n 2, 1) := by decide +kernel
theorem dX3_gateTable_10 : decode cX3_gateTable 10 = .ok (.invokevirtual 81, 3) := by decide +kernel
theorem dX3_gateTable_13 : decode cX3_gateTable 13 = .ok (.aload_n 0, 1) := by decide +kernel
theorem dX3_gateTable_14 : decode cX3_gateTable 14 = .ok (.getfield 21, 3) := by decide +kernel
theorem dX3_gateTable_17 : decode cX3_gateTable 17 = .ok (.iload_n 1, 1) := by decide +kernel
theorem dX3_gateTable_18 : decode cX3_gateTable 18 = .ok (.iaload, 1) := by decide +kernel
theorem dX3_gateTable_19 : decode cX3_gateTable 19 = .ok (.istore_n 3, 1) := by decide +kernel
theorem dX3_gateTable_20 : decode cX3_gateTable 20 = .ok (.aload_n 0, 1) := by decide +kernel
theorem dX3_gateTable_21 : decode cX3_gateTable 21 = .ok (.getfield 18, 3) := by decide +kernel
theorem dX3_gateTable_24 : decode cX3_gateTable 24 = .ok (.iload_n 1, 1) := by decide +kernel
theorem dX3_gateTable_25 : decode cX3_gateTable 25 = .ok (.iaload, 1) := by decide +kernel
theorem dX3_gateTable_26 : decode cX3_gateTable 26 = .ok (.ifCond .ne 8, 3) := by decide +kernel
theorem dX3_gateTable_29 : decode cX3_gateTable 29 = .ok (.iload_n 2, 1) := by decide +kernel
theorem dX3_gateTable_30 : decode cX3_gateTable 30 = .ok (.istore_n 3, 1) := by decide +kernel
theorem dX3_gateTable_31 : decode cX3_gateTable 31 = .ok (.goto 15, 3) := by decide +kernel
theorem dX3_gateTable_34 : decode cX3_gateTable 34 = .ok (.aload_n 0, 1) := by decide +kernel
theorem dX3_gateTable_35 : decode cX3_gateTable 35 = .ok (.getfield 18, 3) := by decide +kernel
theorem dX3_gateTable_38 : decode cX3_gateTable 38 = .ok (.iload_n 1, 1) := by decide +kernel
theorem dX3_gateTable_39 : decode cX3_gateTable 39 = .ok (.iaload, 1) := by decide +kernel
theorem dX3_gateTable_40 : decode cX3_gateTable 40 = .ok (.iconst 1, 1) := by decide +kernel
theorem dX3_gateTable_41 : decode cX3_gateTable 41 = .ok (.if_icmp .ne 5, 3) := by decide +kernel
theorem dX3_gateTable_44 : decode cX3_gateTable 44 = .ok (.iconst 1, 1) := by decide +kernel
theorem dX3_gateTable_45 : decode cX3_gateTable 45 = .ok (.istore_n 3, 1) := by decide +kernel
theorem dX3_gateTable_46 : decode cX3_gateTable 46 = .ok (.iload_n 3, 1) := by decide +kernel
theorem dX3_gateTable_47 : decode cX3_gateTable 47 = .ok (.aload_n 0, 1) := by decide +kernel
theorem dX3_gateTable_48 : decode cX3_gateTable 48 = .ok (.getfield 44, 3) := by decide +kernel
theorem dX3_gateTable_51 : decode cX3_gateTable 51 = .ok (.arraylength, 1) := by decide +kernel
theorem dX3_gateTable_52 : decode cX3_gateTable 52 = .ok (.if_icmp .ge 12, 3) := by decide +kernel
theorem dX3_gateTable_55 : decode cX3_gateTable 55 = .ok (.aload_n 0, 1) := by decide +kernel
theorem dX3_gateTable_56 : decode cX3_gateTable 56 = .ok (.getfield 44, 3) := by decide +kernel
theorem dX3_gateTable_59 : decode cX3_gateTable 59 = .ok (.iload_n 3, 1) := by decide +kernel
theorem dX3_gateTable_60 : decode cX3_gateTable 60 = .ok (.laload, 1) := by decide +kernel
theorem dX3_gateTable_61 : decode cX3_gateTable 61 = .ok (.goto 4, 3) := by decide +kernel
theorem dX3_gateTable_64 : decode cX3_gateTable 64 = .ok (.lconst 0, 1) := by decide +kernel
theorem dX3_gateTable_65 : decode cX3_gateTable 65 = .ok (.lreturn, 1) := by decide +kernel
theorem dX3_countInputs_0 : decode cX3_countInputs 0 = .ok (.aload_n 0, 1) := by decide +kernel
theorem dX3_countInputs_1 : decode cX3_countInputs 1 = .ok (.getfield 44, 3) := by decide +kernel
theorem dX3_countInputs_4 : decode cX3_countInputs 4 = .ok (.iconst 0, 1) := by decide +kernel
theorem dX3_countInputs_5 : decode cX3_countInputs 5 = .ok (.ldc2_w 85, 3) := by decide +kernel
theorem dX3_countInputs_8 : decode cX3_countInputs 8 = .ok (.lastore, 1) := by decide +kernel
theorem dX3_countInputs_9 : decode cX3_countInputs 9 = .ok (.iconst 1, 1) := by decide +kernel
theorem dX3_countInputs_10 : decode cX3_countInputs 10 = .ok (.istore_n 3, 1) := by decide +kernel
theorem dX3_countInputs_11 : decode cX3_countInputs 11 = .ok (.iload_n 3, 1) := by decide +kernel
theorem dX3_countInputs_12 : decode cX3_countInputs 12 = .ok (.aload_n 0, 1) := by decide +kernel
theorem dX3_countInputs_13 : decode cX3_countInputs 13 = .ok (.getfield 44, 3) := by decide +kernel
theorem dX3_countInputs_16 : decode cX3_countInputs 16 = .ok (.arraylength, 1) := by decide +kernel
theorem dX3_countInputs_17 : decode cX3_countInputs 17 = .ok (.if_icmp .ge 16, 3) := by decide +kernel
theorem dX3_countInputs_20 : decode cX3_countInputs 20 = .ok (.aload_n 0, 1) := by decide +kernel
theorem dX3_countInputs_21 : decode cX3_countInputs 21 = .ok (.getfield 44, 3) := by decide +kernel
theorem dX3_countInputs_24 : decode cX3_countInputs 24 = .ok (.iload_n 3, 1) := by decide +kernel
theorem dX3_countInputs_25 : decode cX3_countInputs 25 = .ok (.lconst 0, 1) := by decide +kernel
theorem dX3_countInputs_26 : decode cX3_countInputs 26 = .ok (.lastore, 1) := by decide +kernel
theorem dX3_countInputs_27 : decode cX3_countInputs 27 = .ok (.iinc 3 1, 3) := by decide +kernel
theorem dX3_countInputs_30 : decode cX3_countInputs 30 = .ok (.goto (-19), 3) := by decide +kernel
theorem dX3_countInputs_33 : decode cX3_countInputs 33 = .ok (.iconst 0, 1) := by decide +kernel
theorem dX3_countInputs_34 : decode cX3_countInputs 34 = .ok (.istore_n 3, 1) := by decide +kernel
theorem dX3_countInputs_35 : decode cX3_countInputs 35 = .ok (.iload_n 3, 1) := by decide +kernel
theorem dX3_countInputs_36 : decode cX3_countInputs 36 = .ok (.iload_n 2, 1) := by decide +kernel
theorem dX3_countInputs_37 : decode cX3_countInputs 37 = .ok (.if_icmp .ge 67, 3) := by decide +kernel
theorem dX3_countInputs_40 : decode cX3_countInputs 40 = .ok (.aload_n 0, 1) := by decide +kernel
theorem dX3_countInputs_41 : decode cX3_countInputs 41 = .ok (.aload_n 0, 1) := by decide +kernel
theorem dX3_countInputs_42 : decode cX3_countInputs 42 = .ok (.getfield 24, 3) := by decide +kernel
theorem dX3_countInputs_45 : decode cX3_countInputs 45 = .ok (.iload_n 1, 1) := by decide +kernel
theorem dX3_countInputs_46 : decode cX3_countInputs 46 = .ok (.iconst 4, 1) := by decide +kernel
theorem dX3_countInputs_47 : decode cX3_countInputs 47 = .ok (.imul, 1) := by decide +kernel
theorem dX3_countInputs_48 : decode cX3_countInputs 48 = .ok (.iload_n 3, 1) := by decide +kernel
theorem dX3_countInputs_49 : decode cX3_countInputs 49 = .ok (.iadd, 1) := by decide +kernel
theorem dX3_countInputs_50 : decode cX3_countInputs 50 = .ok (.iaload, 1) := by decide +kernel
theorem dX3_countInputs_51 : decode cX3_countInputs 51 = .ok (.invokevirtual 87, 3) := by decide +kernel
theorem dX3_countInputs_54 : decode cX3_countInputs 54 = .ok (.lstore 4, 2) := by decide +kernel
theorem dX3_countInputs_56 : decode cX3_countInputs 56 = .ok (.aload_n 0, 1) := by decide +kernel
theorem dX3_countInputs_57 : decode cX3_countInputs 57 = .ok (.getfield 44, 3) := by decide +kernel
theorem dX3_countInputs_60 : decode cX3_countInputs 60 = .ok (.arraylength, 1) := by decide +kernel
theorem dX3_countInputs_61 : decode cX3_countInputs 61 = .ok (.iconst 1, 1) := by decide +kernel
theorem dX3_countInputs_62 : decode cX3_countInputs 62 = .ok (.isub, 1) := by decide +kernel
theorem dX3_countInputs_63 : decode cX3_countInputs 63 = .ok (.istore 6, 2) := by decide +kernel
theorem dX3_countInputs_65 : decode cX3_countInputs 65 = .ok (.iload 6, 2) := by decide +kernel
theorem dX3_countInputs_67 : decode cX3_countInputs 67 = .ok (.ifCond .le 31, 3) := by decide +kernel
theorem dX3_countInputs_70 : decode cX3_countInputs 70 = .ok (.aload_n 0, 1) := by decide +kernel
theorem dX3_countInputs_71 : decode cX3_countInputs 71 = .ok (.getfield 44, 3) := by decide +kernel
theorem dX3_countInputs_74 : decode cX3_countInputs 74 = .ok (.iload 6, 2) := by decide +kernel
theorem dX3_countInputs_76 : decode cX3_countInputs 76 = .ok (.dup2, 1) := by decide +kernel
theorem dX3_countInputs_77 : decode cX3_countInputs 77 = .ok (.laload, 1) := by decide +kernel
theorem dX3_countInputs_78 : decode cX3_countInputs 78 = .ok (.aload_n 0, 1) := by decide +kernel
theorem dX3_countInputs_79 : decode cX3_countInputs 79 = .ok (.getfield 44, 3) := by decide +kernel
theorem dX3_countInputs_82 : decode cX3_countInputs 82 = .ok (.iload 6, 2) := by decide +kernel
theorem dX3_countInputs_84 : decode cX3_countInputs 84 = .ok (.iconst 1, 1) := by decide +kernel
theorem dX3_countInputs_85 : decode cX3_countInputs 85 = .ok (.isub, 1) := by decide +kernel
theorem dX3_countInputs_86 : decode cX3_countInputs 86 = .ok (.laload, 1) := by decide +kernel
theorem dX3_countInputs_87 : decode cX3_countInputs 87 = .ok (.lload 4, 2) := by decide +kernel
theorem dX3_countInputs_89 : decode cX3_countInputs 89 = .ok (.land, 1) := by decide +kernel
theorem dX3_countInputs_90 : decode cX3_countInputs 90 = .ok (.lor, 1) := by decide +kernel
theorem dX3_countInputs_91 : decode cX3_countInputs 91 = .ok (.lastore, 1) := by decide +kernel
theorem dX3_countInputs_92 : decode cX3_countInputs 92 = .ok (.iinc 6 (-1), 3) := by decide +kernel
theorem dX3_countInputs_95 : decode cX3_countInputs 95 = .ok (.goto (-30), 3) := by decide +kernel
theorem dX3_countInputs_98 : decode cX3_countInputs 98 = .ok (.iinc 3 1, 3) := by decide +kernel
theorem dX3_countInputs_101 : decode cX3_countInputs 101 = .ok (.goto (-66), 3) := by decide +kernel
theorem dX3_countInputs_104 : decode cX3_countInputs 104 = .ok (.return_, 1) := by decide +kernel
theorem dX3_inputTable_0 : decode cX3_inputTable 0 = .ok (.iload_n 1, 1) := by decide +kernel
theorem dX3_inputTable_1 : decode cX3_inputTable 1 = .ok (.bipush 10, 2) := by decide +kernel
theorem dX3_inputTable_3 : decode cX3_inputTable 3 = .ok (.isub, 1) := by decide +kernel
theorem dX3_inputTable_4 : decode cX3_inputTable 4 = .ok (.istore_n 2, 1) := by decide +kernel
theorem dX3_inputTable_5 : decode cX3_inputTable 5 = .ok (.iload_n 2, 1) := by decide +kernel
theorem dX3_inputTable_6 : decode cX3_inputTable 6 = .ok (.ifCond .lt 22, 3) := by decide +kernel
theorem dX3_inputTable_9 : decode cX3_inputTable 9 = .ok (.iload_n 2, 1) := by decide +kernel
theorem dX3_inputTable_10 : decode cX3_inputTable 10 = .ok (.aload_n 0, 1) := by decide +kernel
theorem dX3_inputTable_11 : decode cX3_inputTable 11 = .ok (.getfield 54, 3) := by decide +kernel
theorem dX3_inputTable_14 : decode cX3_inputTable 14 = .ok (.if_icmp .ge 12, 3) := by decide +kernel
theorem dX3_inputTable_17 : decode cX3_inputTable 17 = .ok (.aload_n 0, 1) := by decide +kernel
theorem dX3_inputTable_18 : decode cX3_inputTable 18 = .ok (.getfield 40, 3) := by decide +kernel
theorem dX3_inputTable_21 : decode cX3_inputTable 21 = .ok (.iload_n 2, 1) := by decide +kernel
theorem dX3_inputTable_22 : decode cX3_inputTable 22 = .ok (.laload, 1) := by decide +kernel
theorem dX3_inputTable_23 : decode cX3_inputTable 23 = .ok (.goto 4, 3) := by decide +kernel
theorem dX3_inputTable_26 : decode cX3_inputTable 26 = .ok (.lconst 0, 1) := by decide +kernel
theorem dX3_inputTable_27 : decode cX3_inputTable 27 = .ok (.lreturn, 1) := by decide +kernel
theorem dX3_inputTable_28 : decode cX3_inputTable 28 = .ok (.iload_n 1, 1) := by decide +kernel
theorem dX3_inputTable_29 : decode cX3_inputTable 29 = .ok (.ifCond .lt 19, 3) := by decide +kernel
theorem dX3_inputTable_32 : decode cX3_inputTable 32 = .ok (.iload_n 1, 1) := by decide +kernel
theorem dX3_inputTable_33 : decode cX3_inputTable 33 = .ok (.aload_n 0, 1) := by decide +kernel
theorem dX3_inputTable_34 : decode cX3_inputTable 34 = .ok (.getfield 47, 3) := by decide +kernel
theorem dX3_inputTable_37 : decode cX3_inputTable 37 = .ok (.if_icmp .ge 11, 3) := by decide +kernel
theorem dX3_inputTable_40 : decode cX3_inputTable 40 = .ok (.getstatic 90, 3) := by decide +kernel
theorem dX3_inputTable_43 : decode cX3_inputTable 43 = .ok (.iload_n 1, 1) := by decide +kernel
theorem dX3_inputTable_44 : decode cX3_inputTable 44 = .ok (.laload, 1) := by decide +kernel
theorem dX3_inputTable_45 : decode cX3_inputTable 45 = .ok (.goto 4, 3) := by decide +kernel
theorem dX3_inputTable_48 : decode cX3_inputTable 48 = .ok (.lconst 0, 1) := by decide +kernel
theorem dX3_inputTable_49 : decode cX3_inputTable 49 = .ok (.lreturn, 1) := by decide +kernel
theorem dX3_ifWorks_0 : decode cX3_ifWorks 0 = .ok (.lload_n 0, 1) := by decide +kernel
theorem dX3_ifWorks_1 : decode cX3_ifWorks 1 = .ok (.getstatic 90, 3) := by decide +kernel
theorem dX3_ifWorks_4 : decode cX3_ifWorks 4 = .ok (.iload_n 2, 1) := by decide +kernel
theorem dX3_ifWorks_5 : decode cX3_ifWorks 5 = .ok (.laload, 1) := by decide +kernel
theorem dX3_ifWorks_6 : decode cX3_ifWorks 6 = .ok (.ldc2_w 85, 3) := by decide +kernel
theorem dX3_ifWorks_9 : decode cX3_ifWorks 9 = .ok (.lxor, 1) := by decide +kernel
theorem dX3_ifWorks_10 : decode cX3_ifWorks 10 = .ok (.land, 1) := by decide +kernel
theorem dX3_ifWorks_11 : decode cX3_ifWorks 11 = .ok (.lstore_n 3, 1) := by decide +kernel
theorem dX3_ifWorks_12 : decode cX3_ifWorks 12 = .ok (.lload_n 3, 1) := by decide +kernel
theorem dX3_ifWorks_13 : decode cX3_ifWorks 13 = .ok (.lload_n 3, 1) := by decide +kernel
theorem dX3_ifWorks_14 : decode cX3_ifWorks 14 = .ok (.iconst 1, 1) := by decide +kernel
theorem dX3_ifWorks_15 : decode cX3_ifWorks 15 = .ok (.iload_n 2, 1) := by decide +kernel
theorem dX3_ifWorks_16 : decode cX3_ifWorks 16 = .ok (.ishl, 1) := by decide +kernel
theorem dX3_ifWorks_17 : decode cX3_ifWorks 17 = .ok (.lshl, 1) := by decide +kernel
theorem dX3_ifWorks_18 : decode cX3_ifWorks 18 = .ok (.lor, 1) := by decide +kernel
theorem dX3_ifWorks_19 : decode cX3_ifWorks 19 = .ok (.lreturn, 1) := by decide +kernel
theorem dX3_ifFails_0 : decode cX3_ifFails 0 = .ok (.lload_n 0, 1) := by decide +kernel
theorem dX3_ifFails_1 : decode cX3_ifFails 1 = .ok (.getstatic 90, 3) := by decide +kernel
theorem dX3_ifFails_4 : decode cX3_ifFails 4 = .ok (.iload_n 2, 1) := by decide +kernel
theorem dX3_ifFails_5 : decode cX3_ifFails 5 = .ok (.laload, 1) := by decide +kernel
theorem dX3_ifFails_6 : decode cX3_ifFails 6 = .ok (.land, 1) := by decide +kernel
theorem dX3_ifFails_7 : decode cX3_ifFails 7 = .ok (.lstore_n 3, 1) := by decide +kernel
theorem dX3_ifFails_8 : decode cX3_ifFails 8 = .ok (.lload_n 3, 1) := by decide +kernel
theorem dX3_ifFails_9 : decode cX3_ifFails 9 = .ok (.lload_n 3, 1) := by decide +kernel
theorem dX3_ifFails_10 : decode cX3_ifFails 10 = .ok (.iconst 1, 1) := by decide +kernel
theorem dX3_ifFails_11 : decode cX3_ifFails 11 = .ok (.iload_n 2, 1) := by decide +kernel
theorem dX3_ifFails_12 : decode cX3_ifFails 12 = .ok (.ishl, 1) := by decide +kernel
theorem dX3_ifFails_13 : decode cX3_ifFails 13 = .ok (.lushr, 1) := by decide +kernel
theorem dX3_ifFails_14 : decode cX3_ifFails 14 = .ok (.lor, 1) := by decide +kernel
theorem dX3_ifFails_15 : decode cX3_ifFails 15 = .ok (.lreturn, 1) := by decide +kernel
theorem dX3_copyFrom_0 : decode cX3_copyFrom 0 = .ok (.aload_n 1, 1) := by decide +kernel
theorem dX3_copyFrom_1 : decode cX3_copyFrom 1 = .ok (.getfield 9, 3) := by decide +kernel
theorem dX3_copyFrom_4 : decode cX3_copyFrom 4 = .ok (.iconst 0, 1) := by decide +kernel
theorem dX3_copyFrom_5 : decode cX3_copyFrom 5 = .ok (.aload_n 0, 1) := by decide +kernel
theorem dX3_copyFrom_6 : decode cX3_copyFrom 6 = .ok (.getfield 9, 3) := by decide +kernel
theorem dX3_copyFrom_9 : decode cX3_copyFrom 9 = .ok (.iconst 0, 1) := by decide +kernel
theorem dX3_copyFrom_10 : decode cX3_copyFrom 10 = .ok (.bipush 6, 2) := by decide +kernel
theorem dX3_copyFrom_12 : decode cX3_copyFrom 12 = .ok (.invokestatic 93, 3) := by decide +kernel
theorem dX3_copyFrom_15 : decode cX3_copyFrom 15 = .ok (.aload_n 1, 1) := by decide +kernel
theorem dX3_copyFrom_16 : decode cX3_copyFrom 16 = .ok (.getfield 15, 3) := by decide +kernel
theorem dX3_copyFrom_19 : decode cX3_copyFrom 19 = .ok (.iconst 0, 1) := by decide +kernel
end
section
theorem dX3_copyFrom_20 : decode cX3_copyFrom 20 = .ok (.aload_n 0, 1) := by decide +kernel
theorem dX3_copyFrom_21 : decode cX3_copyFrom 21 = .ok (.getfield 15, 3) := by decide +kernel
theorem dX3_copyFrom_24 : decode cX3_copyFrom 24 = .ok (.iconst 0, 1) := by decide +kernel
theorem dX3_copyFrom_25 : decode cX3_copyFrom 25 = .ok (.bipush 6, 2) := by decide +kernel
theorem dX3_copyFrom_27 : decode cX3_copyFrom 27 = .ok (.invokestatic 93, 3) := by decide +kernel
theorem dX3_copyFrom_30 : decode cX3_copyFrom 30 = .ok (.aload_n 0, 1) := by decide +kernel
theorem dX3_copyFrom_31 : decode cX3_copyFrom 31 = .ok (.aload_n 1, 1) := by decide +kernel
theorem dX3_copyFrom_32 : decode cX3_copyFrom 32 = .ok (.getfield 47, 3) := by decide +kernel
theorem dX3_copyFrom_35 : decode cX3_copyFrom 35 = .ok (.putfield 47, 3) := by decide +kernel
theorem dX3_copyFrom_38 : decode cX3_copyFrom 38 = .ok (.aload_n 1, 1) := by decide +kernel
theorem dX3_copyFrom_39 : decode cX3_copyFrom 39 = .ok (.getfield 18, 3) := by decide +kernel
theorem dX3_copyFrom_42 : decode cX3_copyFrom 42 = .ok (.iconst 0, 1) := by decide +kernel
theorem dX3_copyFrom_43 : decode cX3_copyFrom 43 = .ok (.aload_n 0, 1) := by decide +kernel
theorem dX3_copyFrom_44 : decode cX3_copyFrom 44 = .ok (.getfield 18, 3) := by decide +kernel
theorem dX3_copyFrom_47 : decode cX3_copyFrom 47 = .ok (.iconst 0, 1) := by decide +kernel
theorem dX3_copyFrom_48 : decode cX3_copyFrom 48 = .ok (.bipush 8, 2) := by decide +kernel
theorem dX3_copyFrom_50 : decode cX3_copyFrom 50 = .ok (.invokestatic 93, 3) := by decide +kernel
theorem dX3_copyFrom_53 : decode cX3_copyFrom 53 = .ok (.aload_n 1, 1) := by decide +kernel
theorem dX3_copyFrom_54 : decode cX3_copyFrom 54 = .ok (.getfield 21, 3) := by decide +kernel
theorem dX3_copyFrom_57 : decode cX3_copyFrom 57 = .ok (.iconst 0, 1) := by decide +kernel
theorem dX3_copyFrom_58 : decode cX3_copyFrom 58 = .ok (.aload_n 0, 1) := by decide +kernel
theorem dX3_copyFrom_59 : decode cX3_copyFrom 59 = .ok (.getfield 21, 3) := by decide +kernel
theorem dX3_copyFrom_62 : decode cX3_copyFrom 62 = .ok (.iconst 0, 1) := by decide +kernel
theorem dX3_copyFrom_63 : decode cX3_copyFrom 63 = .ok (.bipush 8, 2) := by decide +kernel
theorem dX3_copyFrom_65 : decode cX3_copyFrom 65 = .ok (.invokestatic 93, 3) := by decide +kernel
theorem dX3_copyFrom_68 : decode cX3_copyFrom 68 = .ok (.aload_n 1, 1) := by decide +kernel
theorem dX3_copyFrom_69 : decode cX3_copyFrom 69 = .ok (.getfield 24, 3) := by decide +kernel
theorem dX3_copyFrom_72 : decode cX3_copyFrom 72 = .ok (.iconst 0, 1) := by decide +kernel
theorem dX3_copyFrom_73 : decode cX3_copyFrom 73 = .ok (.aload_n 0, 1) := by decide +kernel
theorem dX3_copyFrom_74 : decode cX3_copyFrom 74 = .ok (.getfield 24, 3) := by decide +kernel
theorem dX3_copyFrom_77 : decode cX3_copyFrom 77 = .ok (.iconst 0, 1) := by decide +kernel
theorem dX3_copyFrom_78 : decode cX3_copyFrom 78 = .ok (.bipush 32, 2) := by decide +kernel
theorem dX3_copyFrom_80 : decode cX3_copyFrom 80 = .ok (.invokestatic 93, 3) := by decide +kernel
theorem dX3_copyFrom_83 : decode cX3_copyFrom 83 = .ok (.aload_n 1, 1) := by decide +kernel
theorem dX3_copyFrom_84 : decode cX3_copyFrom 84 = .ok (.getfield 27, 3) := by decide +kernel
theorem dX3_copyFrom_87 : decode cX3_copyFrom 87 = .ok (.iconst 0, 1) := by decide +kernel
theorem dX3_copyFrom_88 : decode cX3_copyFrom 88 = .ok (.aload_n 0, 1) := by decide +kernel
theorem dX3_copyFrom_89 : decode cX3_copyFrom 89 = .ok (.getfield 27, 3) := by decide +kernel
theorem dX3_copyFrom_92 : decode cX3_copyFrom 92 = .ok (.iconst 0, 1) := by decide +kernel
theorem dX3_copyFrom_93 : decode cX3_copyFrom 93 = .ok (.bipush 8, 2) := by decide +kernel
theorem dX3_copyFrom_95 : decode cX3_copyFrom 95 = .ok (.invokestatic 93, 3) := by decide +kernel
theorem dX3_copyFrom_98 : decode cX3_copyFrom 98 = .ok (.aload_n 0, 1) := by decide +kernel
theorem dX3_copyFrom_99 : decode cX3_copyFrom 99 = .ok (.aload_n 1, 1) := by decide +kernel
theorem dX3_copyFrom_100 : decode cX3_copyFrom 100 = .ok (.getfield 54, 3) := by decide +kernel
theorem dX3_copyFrom_103 : decode cX3_copyFrom 103 = .ok (.putfield 54, 3) := by decide +kernel
theorem dX3_copyFrom_106 : decode cX3_copyFrom 106 = .ok (.aload_n 0, 1) := by decide +kernel
theorem dX3_copyFrom_107 : decode cX3_copyFrom 107 = .ok (.aload_n 1, 1) := by decide +kernel
theorem dX3_copyFrom_108 : decode cX3_copyFrom 108 = .ok (.getfield 30, 3) := by decide +kernel
theorem dX3_copyFrom_111 : decode cX3_copyFrom 111 = .ok (.putfield 30, 3) := by decide +kernel
theorem dX3_copyFrom_114 : decode cX3_copyFrom 114 = .ok (.aload_n 1, 1) := by decide +kernel
theorem dX3_copyFrom_115 : decode cX3_copyFrom 115 = .ok (.getfield 34, 3) := by decide +kernel
theorem dX3_copyFrom_118 : decode cX3_copyFrom 118 = .ok (.iconst 0, 1) := by decide +kernel
theorem dX3_copyFrom_119 : decode cX3_copyFrom 119 = .ok (.aload_n 0, 1) := by decide +kernel
theorem dX3_copyFrom_120 : decode cX3_copyFrom 120 = .ok (.getfield 34, 3) := by decide +kernel
theorem dX3_copyFrom_123 : decode cX3_copyFrom 123 = .ok (.iconst 0, 1) := by decide +kernel
theorem dX3_copyFrom_124 : decode cX3_copyFrom 124 = .ok (.iconst 3, 1) := by decide +kernel
theorem dX3_copyFrom_125 : decode cX3_copyFrom 125 = .ok (.invokestatic 93, 3) := by decide +kernel
theorem dX3_copyFrom_128 : decode cX3_copyFrom 128 = .ok (.aload_n 1, 1) := by decide +kernel
theorem dX3_copyFrom_129 : decode cX3_copyFrom 129 = .ok (.getfield 37, 3) := by decide +kernel
theorem dX3_copyFrom_132 : decode cX3_copyFrom 132 = .ok (.iconst 0, 1) := by decide +kernel
theorem dX3_copyFrom_133 : decode cX3_copyFrom 133 = .ok (.aload_n 0, 1) := by decide +kernel
theorem dX3_copyFrom_134 : decode cX3_copyFrom 134 = .ok (.getfield 37, 3) := by decide +kernel
theorem dX3_copyFrom_137 : decode cX3_copyFrom 137 = .ok (.iconst 0, 1) := by decide +kernel
theorem dX3_copyFrom_138 : decode cX3_copyFrom 138 = .ok (.iconst 3, 1) := by decide +kernel
theorem dX3_copyFrom_139 : decode cX3_copyFrom 139 = .ok (.invokestatic 93, 3) := by decide +kernel
theorem dX3_copyFrom_142 : decode cX3_copyFrom 142 = .ok (.aload_n 0, 1) := by decide +kernel
theorem dX3_copyFrom_143 : decode cX3_copyFrom 143 = .ok (.aload_n 1, 1) := by decide +kernel
theorem dX3_copyFrom_144 : decode cX3_copyFrom 144 = .ok (.getfield 57, 3) := by decide +kernel
theorem dX3_copyFrom_147 : decode cX3_copyFrom 147 = .ok (.putfield 57, 3) := by decide +kernel
theorem dX3_copyFrom_150 : decode cX3_copyFrom 150 = .ok (.return_, 1) := by decide +kernel
theorem dX4_init_0 : decode cX4_init 0 = .ok (.aload_n 0, 1) := by decide +kernel
theorem dX4_init_1 : decode cX4_init 1 = .ok (.invokespecial 3, 3) := by decide +kernel
theorem dX4_init_4 : decode cX4_init 4 = .ok (.iload_n 1, 1) := by decide +kernel
theorem dX4_init_5 : decode cX4_init 5 = .ok (.iconst 0, 1) := by decide +kernel
theorem dX4_init_6 : decode cX4_init 6 = .ok (.invokestatic 9, 3) := by decide +kernel
theorem dX4_init_9 : decode cX4_init 9 = .ok (.istore_n 2, 1) := by decide +kernel
theorem dX4_init_10 : decode cX4_init 10 = .ok (.aload_n 0, 1) := by decide +kernel
theorem dX4_init_11 : decode cX4_init 11 = .ok (.iload_n 2, 1) := by decide +kernel
theorem dX4_init_12 : decode cX4_init 12 = .ok (.newarray .int, 2) := by decide +kernel
theorem dX4_init_14 : decode cX4_init 14 = .ok (.putfield 15, 3) := by decide +kernel
theorem dX4_init_17 : decode cX4_init 17 = .ok (.aload_n 0, 1) := by decide +kernel
theorem dX4_init_18 : decode cX4_init 18 = .ok (.iload_n 2, 1) := by decide +kernel
theorem dX4_init_19 : decode cX4_init 19 = .ok (.newarray .int, 2) := by decide +kernel
theorem dX4_init_21 : decode cX4_init 21 = .ok (.putfield 21, 3) := by decide +kernel
theorem dX4_init_24 : decode cX4_init 24 = .ok (.return_, 1) := by decide +kernel
theorem dX4_add_0 : decode cX4_add 0 = .ok (.aload_n 0, 1) := by decide +kernel
theorem dX4_add_1 : decode cX4_add 1 = .ok (.getfield 24, 3) := by decide +kernel
theorem dX4_add_4 : decode cX4_add 4 = .ok (.aload_n 0, 1) := by decide +kernel
theorem dX4_add_5 : decode cX4_add 5 = .ok (.getfield 15, 3) := by decide +kernel
theorem dX4_add_8 : decode cX4_add 8 = .ok (.arraylength, 1) := by decide +kernel
theorem dX4_add_9 : decode cX4_add 9 = .ok (.if_icmp .lt 6, 3) := by decide +kernel
theorem dX4_add_12 : decode cX4_add 12 = .ok (.bipush (-4), 2) := by decide +kernel
theorem dX4_add_14 : decode cX4_add 14 = .ok (.ireturn, 1) := by decide +kernel
theorem dX4_add_15 : decode cX4_add 15 = .ok (.aload_n 0, 1) := by decide +kernel
theorem dX4_add_16 : decode cX4_add 16 = .ok (.getfield 15, 3) := by decide +kernel
theorem dX4_add_19 : decode cX4_add 19 = .ok (.aload_n 0, 1) := by decide +kernel
theorem dX4_add_20 : decode cX4_add 20 = .ok (.getfield 24, 3) := by decide +kernel
theorem dX4_add_23 : decode cX4_add 23 = .ok (.iload_n 1, 1) := by decide +kernel
theorem dX4_add_24 : decode cX4_add 24 = .ok (.iastore, 1) := by decide +kernel
theorem dX4_add_25 : decode cX4_add 25 = .ok (.aload_n 0, 1) := by decide +kernel
theorem dX4_add_26 : decode cX4_add 26 = .ok (.getfield 21, 3) := by decide +kernel
theorem dX4_add_29 : decode cX4_add 29 = .ok (.aload_n 0, 1) := by decide +kernel
theorem dX4_add_30 : decode cX4_add 30 = .ok (.getfield 24, 3) := by decide +kernel
theorem dX4_add_33 : decode cX4_add 33 = .ok (.iload_n 2, 1) := by decide +kernel
theorem dX4_add_34 : decode cX4_add 34 = .ok (.iastore, 1) := by decide +kernel
theorem dX4_add_35 : decode cX4_add 35 = .ok (.aload_n 0, 1) := by decide +kernel
theorem dX4_add_36 : decode cX4_add 36 = .ok (.dup, 1) := by decide +kernel
theorem dX4_add_37 : decode cX4_add 37 = .ok (.getfield 24, 3) := by decide +kernel
theorem dX4_add_40 : decode cX4_add 40 = .ok (.iconst 1, 1) := by decide +kernel
theorem dX4_add_41 : decode cX4_add 41 = .ok (.iadd, 1) := by decide +kernel
theorem dX4_add_42 : decode cX4_add 42 = .ok (.putfield 24, 3) := by decide +kernel
theorem dX4_add_45 : decode cX4_add 45 = .ok (.aload_n 0, 1) := by decide +kernel
theorem dX4_add_46 : decode cX4_add 46 = .ok (.getfield 24, 3) := by decide +kernel
theorem dX4_add_49 : decode cX4_add 49 = .ok (.ireturn, 1) := by decide +kernel
theorem dX4_empty_0 : decode cX4_empty 0 = .ok (.aload_n 0, 1) := by decide +kernel
theorem dX4_empty_1 : decode cX4_empty 1 = .ok (.iconst 0, 1) := by decide +kernel
theorem dX4_empty_2 : decode cX4_empty 2 = .ok (.putfield 24, 3) := by decide +kernel
theorem dX4_empty_5 : decode cX4_empty 5 = .ok (.iconst 0, 1) := by decide +kernel
theorem dX4_empty_6 : decode cX4_empty 6 = .ok (.ireturn, 1) := by decide +kernel
theorem dX4_copyFrom_0 : decode cX4_copyFrom 0 = .ok (.aload_n 0, 1) := by decide +kernel
theorem dX4_copyFrom_1 : decode cX4_copyFrom 1 = .ok (.aload_n 1, 1) := by decide +kernel
theorem dX4_copyFrom_2 : decode cX4_copyFrom 2 = .ok (.getfield 24, 3) := by decide +kernel
theorem dX4_copyFrom_5 : decode cX4_copyFrom 5 = .ok (.aload_n 0, 1) := by decide +kernel
theorem dX4_copyFrom_6 : decode cX4_copyFrom 6 = .ok (.getfield 15, 3) := by decide +kernel
theorem dX4_copyFrom_9 : decode cX4_copyFrom 9 = .ok (.arraylength, 1) := by decide +kernel
theorem dX4_copyFrom_10 : decode cX4_copyFrom 10 = .ok (.invokestatic 28, 3) := by decide +kernel
theorem dX4_copyFrom_13 : decode cX4_copyFrom 13 = .ok (.putfield 24, 3) := by decide +kernel
theorem dX4_copyFrom_16 : decode cX4_copyFrom 16 = .ok (.aload_n 1, 1) := by decide +kernel
theorem dX4_copyFrom_17 : decode cX4_copyFrom 17 = .ok (.getfield 15, 3) := by decide +kernel
theorem dX4_copyFrom_20 : decode cX4_copyFrom 20 = .ok (.iconst 0, 1) := by decide +kernel
theorem dX4_copyFrom_21 : decode cX4_copyFrom 21 = .ok (.aload_n 0, 1) := by decide +kernel
theorem dX4_copyFrom_22 : decode cX4_copyFrom 22 = .ok (.getfield 15, 3) := by decide +kernel
theorem dX4_copyFrom_25 : decode cX4_copyFrom 25 = .ok (.iconst 0, 1) := by decide +kernel
theorem dX4_copyFrom_26 : decode cX4_copyFrom 26 = .ok (.aload_n 0, 1) := by decide +kernel
theorem dX4_copyFrom_27 : decode cX4_copyFrom 27 = .ok (.getfield 24, 3) := by decide +kernel
theorem dX4_copyFrom_30 : decode cX4_copyFrom 30 = .ok (.invokestatic 31, 3) := by decide +kernel
theorem dX4_copyFrom_33 : decode cX4_copyFrom 33 = .ok (.aload_n 1, 1) := by decide +kernel
theorem dX4_copyFrom_34 : decode cX4_copyFrom 34 = .ok (.getfield 21, 3) := by decide +kernel
theorem dX4_copyFrom_37 : decode cX4_copyFrom 37 = .ok (.iconst 0, 1) := by decide +kernel
theorem dX4_copyFrom_38 : decode cX4_copyFrom 38 = .ok (.aload_n 0, 1) := by decide +kernel
theorem dX4_copyFrom_39 : decode cX4_copyFrom 39 = .ok (.getfield 21, 3) := by decide +kernel
theorem dX4_copyFrom_42 : decode cX4_copyFrom 42 = .ok (.iconst 0, 1) := by decide +kernel
theorem dX4_copyFrom_43 : decode cX4_copyFrom 43 = .ok (.aload_n 0, 1) := by decide +kernel
theorem dX4_copyFrom_44 : decode cX4_copyFrom 44 = .ok (.getfield 24, 3) := by decide +kernel
theorem dX4_copyFrom_47 : decode cX4_copyFrom 47 = .ok (.invokestatic 31, 3) := by decide +kernel
theorem dX4_copyFrom_50 : decode cX4_copyFrom 50 = .ok (.return_, 1) := by decide +kernel
theorem dX5_init_0 : decode cX5_init 0 = .ok (.aload_n 0, 1) := by decide +kernel
theorem dX5_init_1 : decode cX5_init 1 = .ok (.invokespecial 3, 3) := by decide +kernel
theorem dX5_init_4 : decode cX5_init 4 = .ok (.aload_n 0, 1) := by decide +kernel
theorem dX5_init_5 : decode cX5_init 5 = .ok (.bipush 16, 2) := by decide +kernel
theorem dX5_init_7 : decode cX5_init 7 = .ok (.newarray .int, 2) := by decide +kernel
theorem dX5_init_9 : decode cX5_init 9 = .ok (.putfield 11, 3) := by decide +kernel
theorem dX5_init_12 : decode cX5_init 12 = .ok (.aload_n 0, 1) := by decide +kernel
theorem dX5_init_13 : decode cX5_init 13 = .ok (.bipush 16, 2) := by decide +kernel
theorem dX5_init_15 : decode cX5_init 15 = .ok (.newarray .int, 2) := by decide +kernel
theorem dX5_init_17 : decode cX5_init 17 = .ok (.putfield 15, 3) := by decide +kernel
theorem dX5_init_20 : decode cX5_init 20 = .ok (.aload_n 0, 1) := by decide +kernel
theorem dX5_init_21 : decode cX5_init 21 = .ok (.bipush 16, 2) := by decide +kernel
theorem dX5_init_23 : decode cX5_init 23 = .ok (.newarray .int, 2) := by decide +kernel
theorem dX5_init_25 : decode cX5_init 25 = .ok (.putfield 18, 3) := by decide +kernel
theorem dX5_init_28 : decode cX5_init 28 = .ok (.aload_n 0, 1) := by decide +kernel
theorem dX5_init_29 : decode cX5_init 29 = .ok (.bipush 100, 2) := by decide +kernel
theorem dX5_init_31 : decode cX5_init 31 = .ok (.newarray .byte, 2) := by decide +kernel
theorem dX5_init_33 : decode cX5_init 33 = .ok (.putfield 21, 3) := by decide +kernel
theorem dX5_init_36 : decode cX5_init 36 = .ok (.return_, 1) := by decide +kernel
theorem dX5_addSign_0 : decode cX5_addSign 0 = .ok (.aload_n 0, 1) := by decide +kernel
theorem dX5_addSign_1 : decode cX5_addSign 1 = .ok (.getfield 25, 3) := by decide +kernel
theorem dX5_addSign_4 : decode cX5_addSign 4 = .ok (.bipush 100, 2) := by decide +kernel
theorem dX5_addSign_6 : decode cX5_addSign 6 = .ok (.if_icmp .lt 6, 3) := by decide +kernel
theorem dX5_addSign_9 : decode cX5_addSign 9 = .ok (.bipush (-4), 2) := by decide +kernel
theorem dX5_addSign_11 : decode cX5_addSign 11 = .ok (.ireturn, 1) := by decide +kernel
theorem dX5_addSign_12 : decode cX5_addSign 12 = .ok (.aload_n 0, 1) := by decide +kernel
theorem dX5_addSign_13 : decode cX5_addSign 13 = .ok (.getfield 21, 3) := by decide +kernel
theorem dX5_addSign_16 : decode cX5_addSign 16 = .ok (.aload_n 0, 1) := by decide +kernel
theorem dX5_addSign_17 : decode cX5_addSign 17 = .ok (.getfield 25, 3) := by decide +kernel
theorem dX5_addSign_20 : decode cX5_addSign 20 = .ok (.iload_n 1, 1) := by decide +kernel
theorem dX5_addSign_21 : decode cX5_addSign 21 = .ok (.i2b, 1) := by decide +kernel
theorem dX5_addSign_22 : decode cX5_addSign 22 = .ok (.bastore, 1) := by decide +kernel
theorem dX5_addSign_23 : decode cX5_addSign 23 = .ok (.aload_n 0, 1) := by decide +kernel
theorem dX5_addSign_24 : decode cX5_addSign 24 = .ok (.dup, 1) := by decide +kernel
theorem dX5_addSign_25 : decode cX5_addSign 25 = .ok (.getfield 25, 3) := by decide +kernel
theorem dX5_addSign_28 : decode cX5_addSign 28 = .ok (.iconst 1, 1) := by decide +kernel
theorem dX5_addSign_29 : decode cX5_addSign 29 = .ok (.iadd, 1) := by decide +kernel
theorem dX5_addSign_30 : decode cX5_addSign 30 = .ok (.putfield 25, 3) := by decide +kernel
theorem dX5_addSign_33 : decode cX5_addSign 33 = .ok (.aload_n 0, 1) := by decide +kernel
theorem dX5_addSign_34 : decode cX5_addSign 34 = .ok (.getfield 25, 3) := by decide +kernel
theorem dX5_addSign_37 : decode cX5_addSign 37 = .ok (.ireturn, 1) := by decide +kernel
theorem dX5_parse_0 : decode cX5_parse 0 = .ok (.aload_n 0, 1) := by decide +kernel
theorem dX5_parse_1 : decode cX5_parse 1 = .ok (.iconst 0, 1) := by decide +kernel
theorem dX5_parse_2 : decode cX5_parse 2 = .ok (.putfield 29, 3) := by decide +kernel
theorem dX5_parse_5 : decode cX5_parse 5 = .ok (.aload_n 0, 1) := by decide +kernel
theorem dX5_parse_6 : decode cX5_parse 6 = .ok (.iconst 0, 1) := by decide +kernel
theorem dX5_parse_7 : decode cX5_parse 7 = .ok (.putfield 32, 3) := by decide +kernel
theorem dX5_parse_10 : decode cX5_parse 10 = .ok (.iconst 0, 1) := by decide +kernel
theorem dX5_parse_11 : decode cX5_parse 11 = .ok (.istore_n 1, 1) := by decide +kernel
theorem dX5_parse_12 : decode cX5_parse 12 = .ok (.iload_n 1, 1) := by decide +kernel
theorem dX5_parse_13 : decode cX5_parse 13 = .ok (.bipush 16, 2) := by decide +kernel
theorem dX5_parse_15 : decode cX5_parse 15 = .ok (.if_icmp .ge 48, 3) := by decide +kernel
theorem dX5_parse_18 : decode cX5_parse 18 = .ok (.aload_n 0, 1) := by decide +kernel
theorem dX5_parse_19 : decode cX5_parse 19 = .ok (.invokevirtual 35, 3) := by decide +kernel
theorem dX5_parse_22 : decode cX5_parse 22 = .ok (.ifCond .ne 5, 3) := by decide +kernel
theorem dX5_parse_25 : decode cX5_parse 25 = .ok (.iconst 0, 1) := by decide +kernel
theorem dX5_parse_26 : decode cX5_parse 26 = .ok (.ireturn, 1) := by decide +kernel
theorem dX5_parse_27 : decode cX5_parse 27 = .ok (.aload_n 0, 1) := by decide +kernel
theorem dX5_parse_28 : decode cX5_parse 28 = .ok (.getfield 29, 3) := by decide +kernel
theorem dX5_parse_31 : decode cX5_parse 31 = .ok (.aload_n 0, 1) := by decide +kernel
theorem dX5_parse_32 : decode cX5_parse 32 = .ok (.getfield 25, 3) := by decide +kernel
theorem dX5_parse_35 : decode cX5_parse 35 = .ok (.if_icmp .lt 5, 3) := by decide +kernel
theorem dX5_parse_38 : decode cX5_parse 38 = .ok (.iconst 1, 1) := by decide +kernel
theorem dX5_parse_39 : decode cX5_parse 39 = .ok (.ireturn, 1) := by decide +kernel
theorem dX5_parse_40 : decode cX5_parse 40 = .ok (.iload_n 1, 1) := by decide +kernel
theorem dX5_parse_41 : decode cX5_parse 41 = .ok (.bipush 15, 2) := by decide +kernel
theorem dX5_parse_43 : decode cX5_parse 43 = .ok (.if_icmp .eq 12, 3) := by decide +kernel
theorem dX5_parse_46 : decode cX5_parse 46 = .ok (.aload_n 0, 1) := by decide +kernel
theorem dX5_parse_47 : decode cX5_parse 47 = .ok (.bipush 59, 2) := by decide +kernel
theorem dX5_parse_49 : decode cX5_parse 49 = .ok (.invokevirtual 39, 3) := by decide +kernel
theorem dX5_parse_52 : decode cX5_parse 52 = .ok (.ifCond .ne 5, 3) := by decide +kernel
theorem dX5_parse_55 : decode cX5_parse 55 = .ok (.iconst 0, 1) := by decide +kernel
theorem dX5_parse_56 : decode cX5_parse 56 = .ok (.ireturn, 1) := by decide +kernel
theorem dX5_parse_57 : decode cX5_parse 57 = .ok (.iinc 1 1, 3) := by decide +kernel
theorem dX5_parse_60 : decode cX5_parse 60 = .ok (.goto (-48), 3) := by decide +kernel
theorem dX5_parse_63 : decode cX5_parse 63 = .ok (.iconst 0, 1) := by decide +kernel
theorem dX5_parse_64 : decode cX5_parse 64 = .ok (.ireturn, 1) := by decide +kernel
theorem dX5_parseClause_0 : decode cX5_parseClause 0 = .ok (.aload_n 0, 1) := by decide +kernel
theorem dX5_parseClause_1 : decode cX5_parseClause 1 = .ok (.bipush 112, 2) := by decide +kernel
theorem dX5_parseClause_3 : decode cX5_parseClause 3 = .ok (.invokevirtual 39, 3) := by decide +kernel
theorem dX5_parseClause_6 : decode cX5_parseClause 6 = .ok (.ifCond .eq 15, 3) := by decide +kernel
theorem dX5_parseClause_9 : decode cX5_parseClause 9 = .ok (.aload_n 0, 1) := by decide +kernel
theorem dX5_parseClause_10 : decode cX5_parseClause 10 = .ok (.iconst 0, 1) := by decide +kernel
theorem dX5_parseClause_11 : decode cX5_parseClause 11 = .ok (.aload_n 0, 1) := by decide +kernel
theorem dX5_parseClause_12 : decode cX5_parseClause 12 = .ok (.iconst 3, 1) := by decide +kernel
theorem dX5_parseClause_13 : decode cX5_parseClause 13 = .ok (.invokevirtual 43, 3) := by decide +kernel
theorem dX5_parseClause_16 : decode cX5_parseClause 16 = .ok (.iconst 0, 1) := by decide +kernel
theorem dX5_parseClause_17 : decode cX5_parseClause 17 = .ok (.invokevirtual 47, 3) := by decide +kernel
theorem dX5_parseClause_20 : decode cX5_parseClause 20 = .ok (.ireturn, 1) := by decide +kernel
theorem dX5_parseClause_21 : decode cX5_parseClause 21 = .ok (.aload_n 0, 1) := by decide +kernel
theorem dX5_parseClause_22 : decode cX5_parseClause 22 = .ok (.bipush 97, 2) := by decide +kernel
theorem dX5_parseClause_24 : decode cX5_parseClause 24 = .ok (.invokevirtual 39, 3) := by decide +kernel
theorem dX5_parseClause_27 : decode cX5_parseClause 27 = .ok (.ifCond .eq 11, 3) := by decide +kernel
theorem dX5_parseClause_30 : decode cX5_parseClause 30 = .ok (.aload_n 0, 1) := by decide +kernel
theorem dX5_parseClause_31 : decode cX5_parseClause 31 = .ok (.iconst 1, 1) := by decide +kernel
theorem dX5_parseClause_32 : decode cX5_parseClause 32 = .ok (.iconst 0, 1) := by decide +kernel
theorem dX5_parseClause_33 : decode cX5_parseClause 33 = .ok (.iconst 0, 1) := by decide +kernel
theorem dX5_parseClause_34 : decode cX5_parseClause 34 = .ok (.invokevirtual 47, 3) := by decide +kernel
theorem dX5_parseClause_37 : decode cX5_parseClause 37 = .ok (.ireturn, 1) := by decide +kernel
theorem dX5_parseClause_38 : decode cX5_parseClause 38 = .ok (.aload_n 0, 1) := by decide +kernel
theorem dX5_parseClause_39 : decode cX5_parseClause 39 = .ok (.bipush 111, 2) := by decide +kernel
theorem dX5_parseClause_41 : decode cX5_parseClause 41 = .ok (.invokevirtual 39, 3) := by decide +kernel
theorem dX5_parseClause_44 : decode cX5_parseClause 44 = .ok (.ifCond .eq 11, 3) := by decide +kernel
theorem dX5_parseClause_47 : decode cX5_parseClause 47 = .ok (.aload_n 0, 1) := by decide +kernel
theorem dX5_parseClause_48 : decode cX5_parseClause 48 = .ok (.iconst 1, 1) := by decide +kernel
theorem dX5_parseClause_49 : decode cX5_parseClause 49 = .ok (.iconst 1, 1) := by decide +kernel
theorem dX5_parseClause_50 : decode cX5_parseClause 50 = .ok (.iconst 0, 1) := by decide +kernel
theorem dX5_parseClause_51 : decode cX5_parseClause 51 = .ok (.invokevirtual 47, 3) := by decide +kernel
theorem dX5_parseClause_54 : decode cX5_parseClause 54 = .ok (.ireturn, 1) := by decide +kernel
theorem dX5_parseClause_55 : decode cX5_parseClause 55 = .ok (.aload_n 0, 1) := by decide +kernel
theorem dX5_parseClause_56 : decode cX5_parseClause 56 = .ok (.bipush 115, 2) := by decide +kernel
theorem dX5_parseClause_58 : decode cX5_parseClause 58 = .ok (.invokevirtual 39, 3) := by decide +kernel
theorem dX5_parseClause_61 : decode cX5_parseClause 61 = .ok (.ifCond .eq 15, 3) := by decide +kernel
theorem dX5_parseClause_64 : decode cX5_parseClause 64 = .ok (.aload_n 0, 1) := by decide +kernel
theorem dX5_parseClause_65 : decode cX5_parseClause 65 = .ok (.iconst 1, 1) := by decide +kernel
theorem dX5_parseClause_66 : decode cX5_parseClause 66 = .ok (.iconst 2, 1) := by decide +kernel
theorem dX5_parseClause_67 : decode cX5_parseClause 67 = .ok (.aload_n 0, 1) := by decide +kernel
theorem dX5_parseClause_68 : decode cX5_parseClause 68 = .ok (.iconst 1, 1) := by decide +kernel
theorem dX5_parseClause_69 : decode cX5_parseClause 69 = .ok (.invokevirtual 43, 3) := by decide +kernel
theorem dX5_parseClause_72 : decode cX5_parseClause 72 = .ok (.invokevirtual 47, 3) := by decide +kernel
theorem dX5_parseClause_75 : decode cX5_parseClause 75 = .ok (.ireturn, 1) := by decide +kernel
theorem dX5_parseClause_76 : decode cX5_parseClause 76 = .ok (.aload_n 0, 1) := by decide +kernel
theorem dX5_parseClause_77 : decode cX5_parseClause 77 = .ok (.bipush 106, 2) := by decide +kernel
theorem dX5_parseClause_79 : decode cX5_parseClause 79 = .ok (.invokevirtual 39, 3) := by decide +kernel
theorem dX5_parseClause_82 : decode cX5_parseClause 82 = .ok (.ifCond .eq 8, 3) := by decide +kernel
theorem dX5_parseClause_85 : decode cX5_parseClause 85 = .ok (.aload_n 0, 1) := by decide +kernel
theorem dX5_parseClause_86 : decode cX5_parseClause 86 = .ok (.invokevirtual 51, 3) := by decide +kernel
theorem dX5_parseClause_89 : decode cX5_parseClause 89 = .ok (.ireturn, 1) := by decide +kernel
theorem dX5_parseClause_90 : decode cX5_parseClause 90 = .ok (.aload_n 0, 1) := by decide +kernel
theorem dX5_parseClause_91 : decode cX5_parseClause 91 = .ok (.bipush 99, 2) := by decide +kernel
theorem dX5_parseClause_93 : decode cX5_parseClause 93 = .ok (.invokevirtual 39, 3) := by decide +kernel
theorem dX5_parseClause_96 : decode cX5_parseClause 96 = .ok (.ifCond .eq 14, 3) := by decide +kernel
theorem dX5_parseClause_99 : decode cX5_parseClause 99 = .ok (.aload_n 0, 1) := by decide +kernel
theorem dX5_parseClause_100 : decode cX5_parseClause 100 = .ok (.invokevirtual 54, 3) := by decide +kernel
theorem dX5_parseClause_103 : decode cX5_parseClause 103 = .ok (.ifCond .eq 7, 3) := by decide +kernel
theorem dX5_parseClause_106 : decode cX5_parseClause 106 = .ok (.iconst 1, 1) := by decide +kernel
theorem dX5_parseClause_107 : decode cX5_parseClause 107 = .ok (.goto 4, 3) := by decide +kernel
theorem dX5_parseClause_110 : decode cX5_parseClause 110 = .ok (.iconst 0, 1) := by decide +kernel
theorem dX5_parseClause_111 : decode cX5_parseClause 111 = .ok (.ireturn, 1) := by decide +kernel
theorem dX5_parseInput_0 : decode cX5_parseInput 0 = .ok (.aload_n 0, 1) := by decide +kernel
theorem dX5_parseInput_1 : decode cX5_parseInput 1 = .ok (.iconst 1, 1) := by decide +kernel
theorem dX5_parseInput_2 : decode cX5_parseInput 2 = .ok (.invokevirtual 43, 3) := by decide +kernel
theorem dX5_parseInput_5 : decode cX5_parseInput 5 = .ok (.istore_n 1, 1) := by decide +kernel
theorem dX5_parseInput_6 : decode cX5_parseInput 6 = .ok (.iload_n 1, 1) := by decide +kernel
theorem dX5_parseInput_7 : decode cX5_parseInput 7 = .ok (.ifCond .ge 5, 3) := by decide +kernel
theorem dX5_parseInput_10 : decode cX5_parseInput 10 = .ok (.iconst 0, 1) := by decide +kernel
theorem dX5_parseInput_11 : decode cX5_parseInput 11 = .ok (.ireturn, 1) := by decide +kernel
theorem dX5_parseInput_12 : decode cX5_parseInput 12 = .ok (.aload_n 0, 1) := by decide +kernel
theorem dX5_parseInput_13 : decode cX5_parseInput 13 = .ok (.bipush 112, 2) := by decide +kernel
theorem dX5_parseInput_15 : decode cX5_parseInput 15 = .ok (.invokevirtual 39, 3) := by decide +kernel
theorem dX5_parseInput_18 : decode cX5_parseInput 18 = .ok (.ifCond .eq 15, 3) := by decide +kernel
theorem dX5_parseInput_21 : decode cX5_parseInput 21 = .ok (.aload_n 0, 1) := by decide +kernel
theorem dX5_parseInput_22 : decode cX5_parseInput 22 = .ok (.iconst 2, 1) := by decide +kernel
theorem dX5_parseInput_23 : decode cX5_parseInput 23 = .ok (.iload_n 1, 1) := by decide +kernel
theorem dX5_parseInput_24 : decode cX5_parseInput 24 = .ok (.aload_n 0, 1) := by decide +kernel
theorem dX5_parseInput_25 : decode cX5_parseInput 25 = .ok (.iconst 1, 1) := by decide +kernel
theorem dX5_parseInput_26 : decode cX5_parseInput 26 = .ok (.invokevirtual 43, 3) := by decide +kernel
theorem dX5_parseInput_29 : decode cX5_parseInput 29 = .ok (.invokevirtual 47, 3) := by decide +kernel
theorem dX5_parseInput_32 : decode cX5_parseInput 32 = .ok (.ireturn, 1) := by decide +kernel
theorem dX5_parseInput_33 : decode cX5_parseInput 33 = .ok (.aload_n 0, 1) := by decide +kernel
theorem dX5_parseInput_34 : decode cX5_parseInput 34 = .ok (.bipush 103, 2) := by decide +kernel
theorem dX5_parseInput_36 : decode cX5_parseInput 36 = .ok (.invokevirtual 39, 3) := by decide +kernel
theorem dX5_parseInput_39 : decode cX5_parseInput 39 = .ok (.ifCond .eq 21, 3) := by decide +kernel
theorem dX5_parseInput_42 : decode cX5_parseInput 42 = .ok (.aload_n 0, 1) := by decide +kernel
theorem dX5_parseInput_43 : decode cX5_parseInput 43 = .ok (.iconst 3, 1) := by decide +kernel
theorem dX5_parseInput_44 : decode cX5_parseInput 44 = .ok (.iload_n 1, 1) := by decide +kernel
theorem dX5_parseInput_45 : decode cX5_parseInput 45 = .ok (.aload_n 0, 1) := by decide +kernel
theorem dX5_parseInput_46 : decode cX5_parseInput 46 = .ok (.iconst 1, 1) := by decide +kernel
theorem dX5_parseInput_47 : decode cX5_parseInput 47 = .ok (.invokevirtual 43, 3) := by decide +kernel
theorem dX5_parseInput_50 : decode cX5_parseInput 50 = .ok (.invokevirtual 47, 3) := by decide +kernel
theorem dX5_parseInput_53 : decode cX5_parseInput 53 = .ok (.ifCond .eq 7, 3) := by decide +kernel
theorem dX5_parseInput_56 : decode cX5_parseInput 56 = .ok (.iconst 1, 1) := by decide +kernel
theorem dX5_parseInput_57 : decode cX5_parseInput 57 = .ok (.goto 4, 3) := by decide +kernel
theorem dX5_parseInput_60 : decode cX5_parseInput 60 = .ok (.iconst 0, 1) := by decide +kernel
theorem dX5_parseInput_61 : decode cX5_parseInput 61 = .ok (.ireturn, 1) := by decide +kernel
theorem dX5_parseCause_0 : decode cX5_parseCause 0 = .ok (.aload_n 0, 1) := by decide +kernel
theorem dX5_parseCause_1 : decode cX5_parseCause 1 = .ok (.iconst 3, 1) := by decide +kernel
theorem dX5_parseCause_2 : decode cX5_parseCause 2 = .ok (.invokevirtual 43, 3) := by decide +kernel
theorem dX5_parseCause_5 : decode cX5_parseCause 5 = .ok (.istore_n 1, 1) := by decide +kernel
theorem dX5_parseCause_6 : decode cX5_parseCause 6 = .ok (.iload_n 1, 1) := by decide +kernel
theorem dX5_parseCause_7 : decode cX5_parseCause 7 = .ok (.ifCond .ge 5, 3) := by decide +kernel
theorem dX5_parseCause_10 : decode cX5_parseCause 10 = .ok (.iconst 0, 1) := by decide +kernel
theorem dX5_parseCause_11 : decode cX5_parseCause 11 = .ok (.ireturn, 1) := by decide +kernel
theorem dX5_parseCause_12 : decode cX5_parseCause 12 = .ok (.iconst 0, 1) := by decide +kernel
theorem dX5_parseCause_13 : decode cX5_parseCause 13 = .ok (.istore_n 2, 1) := by decide +kernel
theorem dX5_parseCause_14 : decode cX5_parseCause 14 = .ok (.iconst 0, 1) := by decide +kernel
theorem dX5_parseCause_15 : decode cX5_parseCause 15 = .ok (.istore_n 3, 1) := by decide +kernel
theorem dX5_parseCause_16 : decode cX5_parseCause 16 = .ok (.iload_n 3, 1) := by decide +kernel
theorem dX5_parseCause_17 : decode cX5_parseCause 17 = .ok (.iconst 4, 1) := by decide +kernel
theorem dX5_parseCause_18 : decode cX5_parseCause 18 = .ok (.if_icmp .ge 39, 3) := by decide +kernel
theorem dX5_parseCause_21 : decode cX5_parseCause 21 = .ok (.aload_n 0, 1) := by decide +kernel
theorem dX5_parseCause_22 : decode cX5_parseCause 22 = .ok (.bipush 112, 2) := by decide +kernel
theorem dX5_parseCause_24 : decode cX5_parseCause 24 = .ok (.invokevirtual 39, 3) := by decide +kernel
theorem dX5_parseCause_27 : decode cX5_parseCause 27 = .ok (.ifCond .eq 30, 3) := by decide +kernel
theorem dX5_parseCause_30 : decode cX5_parseCause 30 = .ok (.aload_n 0, 1) := by decide +kernel
theorem dX5_parseCause_31 : decode cX5_parseCause 31 = .ok (.iconst 1, 1) := by decide +kernel
theorem dX5_parseCause_32 : decode cX5_parseCause 32 = .ok (.invokevirtual 43, 3) := by decide +kernel
theorem dX5_parseCause_35 : decode cX5_parseCause 35 = .ok (.istore 4, 2) := by decide +kernel
theorem dX5_parseCause_37 : decode cX5_parseCause 37 = .ok (.iload 4, 2) := by decide +kernel
theorem dX5_parseCause_39 : decode cX5_parseCause 39 = .ok (.ifCond .ge 5, 3) := by decide +kernel
theorem dX5_parseCause_42 : decode cX5_parseCause 42 = .ok (.iconst 0, 1) := by decide +kernel
theorem dX5_parseCause_43 : decode cX5_parseCause 43 = .ok (.ireturn, 1) := by decide +kernel
theorem dX5_parseCause_44 : decode cX5_parseCause 44 = .ok (.iload_n 2, 1) := by decide +kernel
theorem dX5_parseCause_45 : decode cX5_parseCause 45 = .ok (.iconst 1, 1) := by decide +kernel
theorem dX5_parseCause_46 : decode cX5_parseCause 46 = .ok (.iload 4, 2) := by decide +kernel
theorem dX5_parseCause_48 : decode cX5_parseCause 48 = .ok (.ishl, 1) := by decide +kernel
theorem dX5_parseCause_49 : decode cX5_parseCause 49 = .ok (.ior, 1) := by decide +kernel
theorem dX5_parseCause_50 : decode cX5_parseCause 50 = .ok (.istore_n 2, 1) := by decide +kernel
theorem dX5_parseCause_51 : decode cX5_parseCause 51 = .ok (.iinc 3 1, 3) := by decide +kernel
theorem dX5_parseCause_54 : decode cX5_parseCause 54 = .ok (.goto (-38), 3) := by decide +kernel
theorem dX5_parseCause_57 : decode cX5_parseCause 57 = .ok (.iload_n 2, 1) := by decide +kernel
theorem dX5_parseCause_58 : decode cX5_parseCause 58 = .ok (.ifCond .eq 17, 3) := by decide +kernel
theorem dX5_parseCause_61 : decode cX5_parseCause 61 = .ok (.aload_n 0, 1) := by decide +kernel
theorem dX5_parseCause_62 : decode cX5_parseCause 62 = .ok (.iconst 4, 1) := by decide +kernel
theorem dX5_parseCause_63 : decode cX5_parseCause 63 = .ok (.iload_n 1, 1) := by decide +kernel
theorem dX5_parseCause_64 : decode cX5_parseCause 64 = .ok (.iload_n 2, 1) := by decide +kernel
theorem dX5_parseCause_65 : decode cX5_parseCause 65 = .ok (.invokevirtual 47, 3) := by decide +kernel
theorem dX5_parseCause_68 : decode cX5_parseCause 68 = .ok (.ifCond .eq 7, 3) := by decide +kernel
theorem dX5_parseCause_71 : decode cX5_parseCause 71 = .ok (.iconst 1, 1) := by decide +kernel
theorem dX5_parseCause_72 : decode cX5_parseCause 72 = .ok (.goto 4, 3) := by decide +kernel
theorem dX5_parseCause_75 : decode cX5_parseCause 75 = .ok (.iconst 0, 1) := by decide +kernel
theorem dX5_parseCause_76 : decode cX5_parseCause 76 = .ok (.ireturn, 1) := by decide +kernel
theorem dX5_passes_0 : decode cX5_passes 0 = .ok (.aload_n 0, 1) := by decide +kernel
theorem dX5_passes_1 : decode cX5_passes 1 = .ok (.getfield 29, 3) := by decide +kernel
theorem dX5_passes_4 : decode cX5_passes 4 = .ok (.aload_n 0, 1) := by decide +kernel
theorem dX5_passes_5 : decode cX5_passes 5 = .ok (.getfield 25, 3) := by decide +kernel
theorem dX5_passes_8 : decode cX5_passes 8 = .ok (.if_icmp .ge 16, 3) := by decide +kernel
theorem dX5_passes_11 : decode cX5_passes 11 = .ok (.aload_n 0, 1) := by decide +kernel
theorem dX5_passes_12 : decode cX5_passes 12 = .ok (.getfield 21, 3) := by decide +kernel
theorem dX5_passes_15 : decode cX5_passes 15 = .ok (.aload_n 0, 1) := by decide +kernel
theorem dX5_passes_16 : decode cX5_passes 16 = .ok (.getfield 29, 3) := by decide +kernel
theorem dX5_passes_19 : decode cX5_passes 19 = .ok (.baload, 1) := by decide +kernel
theorem dX5_passes_20 : decode cX5_passes 20 = .ok (.iload_n 1, 1) := by decide +kernel
theorem dX5_passes_21 : decode cX5_passes 21 = .ok (.if_icmp .eq 5, 3) := by decide +kernel
theorem dX5_passes_24 : decode cX5_passes 24 = .ok (.iconst 0, 1) := by decide +kernel
theorem dX5_passes_25 : decode cX5_passes 25 = .ok (.ireturn, 1) := by decide +kernel
theorem dX5_passes_26 : decode cX5_passes 26 = .ok (.aload_n 0, 1) := by decide +kernel
theorem dX5_passes_27 : decode cX5_passes 27 = .ok (.dup, 1) := by decide +kernel
theorem dX5_passes_28 : decode cX5_passes 28 = .ok (.getfield 29, 3) := by decide +kernel
theorem dX5_passes_31 : decode cX5_passes 31 = .ok (.iconst 1, 1) := by decide +kernel
theorem dX5_passes_32 : decode cX5_passes 32 = .ok (.iadd, 1) := by decide +kernel
theorem dX5_passes_33 : decode cX5_passes 33 = .ok (.putfield 29, 3) := by decide +kernel
theorem dX5_passes_36 : decode cX5_passes 36 = .ok (.iconst 1, 1) := by decide +kernel
theorem dX5_passes_37 : decode cX5_passes 37 = .ok (.ireturn, 1) := by decide +kernel
theorem dX5_digits_0 : decode cX5_digits 0 = .ok (.iconst (-1), 1) := by decide +kernel
theorem dX5_digits_1 : decode cX5_digits 1 = .ok (.istore_n 2, 1) := by decide +kernel
theorem dX5_digits_2 : decode cX5_digits 2 = .ok (.iconst 0, 1) := by decide +kernel
theorem dX5_digits_3 : decode cX5_digits 3 = .ok (.istore_n 3, 1) := by decide +kernel
theorem dX5_digits_4 : decode cX5_digits 4 = .ok (.iload_n 3, 1) := by decide +kernel
theorem dX5_digits_5 : decode cX5_digits 5 = .ok (.iload_n 1, 1) := by decide +kernel
theorem dX5_digits_6 : decode cX5_digits 6 = .ok (.if_icmp .ge 67, 3) := by decide +kernel
theorem dX5_digits_9 : decode cX5_digits 9 = .ok (.aload_n 0, 1) := by decide +kernel
theorem dX5_digits_10 : decode cX5_digits 10 = .ok (.getfield 29, 3) := by decide +kernel
theorem dX5_digits_13 : decode cX5_digits 13 = .ok (.aload_n 0, 1) := by decide +kernel
theorem dX5_digits_14 : decode cX5_digits 14 = .ok (.getfield 25, 3) := by decide +kernel
theorem dX5_digits_17 : decode cX5_digits 17 = .ok (.if_icmp .ge 56, 3) := by decide +kernel
theorem dX5_digits_20 : decode cX5_digits 20 = .ok (.aload_n 0, 1) := by decide +kernel
theorem dX5_digits_21 : decode cX5_digits 21 = .ok (.getfield 21, 3) := by decide +kernel
theorem dX5_digits_24 : decode cX5_digits 24 = .ok (.aload_n 0, 1) := by decide +kernel
theorem dX5_digits_25 : decode cX5_digits 25 = .ok (.getfield 29, 3) := by decide +kernel
theorem dX5_digits_28 : decode cX5_digits 28 = .ok (.baload, 1) := by decide +kernel
theorem dX5_digits_29 : decode cX5_digits 29 = .ok (.invokestatic 57, 3) := by decide +kernel
theorem dX5_digits_32 : decode cX5_digits 32 = .ok (.ifCond .eq 41, 3) := by decide +kernel
theorem dX5_digits_35 : decode cX5_digits 35 = .ok (.iload_n 2, 1) := by decide +kernel
theorem dX5_digits_36 : decode cX5_digits 36 = .ok (.iconst 0, 1) := by decide +kernel
theorem dX5_digits_37 : decode cX5_digits 37 = .ok (.invokestatic 60, 3) := by decide +kernel
theorem dX5_digits_40 : decode cX5_digits 40 = .ok (.bipush 10, 2) := by decide +kernel
theorem dX5_digits_42 : decode cX5_digits 42 = .ok (.imul, 1) := by decide +kernel
theorem dX5_digits_43 : decode cX5_digits 43 = .ok (.aload_n 0, 1) := by decide +kernel
theorem dX5_digits_44 : decode cX5_digits 44 = .ok (.getfield 21, 3) := by decide +kernel
theorem dX5_digits_47 : decode cX5_digits 47 = .ok (.aload_n 0, 1) := by decide +kernel
theorem dX5_digits_48 : decode cX5_digits 48 = .ok (.getfield 29, 3) := by decide +kernel
theorem dX5_digits_51 : decode cX5_digits 51 = .ok (.baload, 1) := by decide +kernel
theorem dX5_digits_52 : decode cX5_digits 52 = .ok (.iadd, 1) := by decide +kernel
theorem dX5_digits_53 : decode cX5_digits 53 = .ok (.bipush 48, 2) := by decide +kernel
theorem dX5_digits_55 : decode cX5_digits 55 = .ok (.isub, 1) := by decide +kernel
theorem dX5_digits_56 : decode cX5_digits 56 = .ok (.istore_n 2, 1) := by decide +kernel
theorem dX5_digits_57 : decode cX5_digits 57 = .ok (.aload_n 0, 1) := by decide +kernel
theorem dX5_digits_58 : decode cX5_digits 58 = .ok (.dup, 1) := by decide +kernel
theorem dX5_digits_59 : decode cX5_digits 59 = .ok (.getfield 29, 3) := by decide +kernel
theorem dX5_digits_62 : decode cX5_digits 62 = .ok (.iconst 1, 1) := by decide +kernel
theorem dX5_digits_63 : decode cX5_digits 63 = .ok (.iadd, 1) := by decide +kernel
theorem dX5_digits_64 : decode cX5_digits 64 = .ok (.putfield 29, 3) := by decide +kernel
theorem dX5_digits_67 : decode cX5_digits 67 = .ok (.iinc 3 1, 3) := by decide +kernel
theorem dX5_digits_70 : decode cX5_digits 70 = .ok (.goto (-66), 3) := by decide +kernel
theorem dX5_digits_73 : decode cX5_digits 73 = .ok (.iload_n 2, 1) := by decide +kernel
theorem dX5_digits_74 : decode cX5_digits 74 = .ok (.ireturn, 1) := by decide +kernel
theorem dX5_isDigit_0 : decode cX5_isDigit 0 = .ok (.iload_n 0, 1) := by decide +kernel
theorem dX5_isDigit_1 : decode cX5_isDigit 1 = .ok (.bipush 48, 2) := by decide +kernel
theorem dX5_isDigit_3 : decode cX5_isDigit 3 = .ok (.if_icmp .lt 13, 3) := by decide +kernel
theorem dX5_isDigit_6 : decode cX5_isDigit 6 = .ok (.iload_n 0, 1) := by decide +kernel
theorem dX5_isDigit_7 : decode cX5_isDigit 7 = .ok (.bipush 57, 2) := by decide +kernel
theorem dX5_isDigit_9 : decode cX5_isDigit 9 = .ok (.if_icmp .gt 7, 3) := by decide +kernel
theorem dX5_isDigit_12 : decode cX5_isDigit 12 = .ok (.iconst 1, 1) := by decide +kernel
theorem dX5_isDigit_13 : decode cX5_isDigit 13 = .ok (.goto 4, 3) := by decide +kernel
theorem dX5_isDigit_16 : decode cX5_isDigit 16 = .ok (.iconst 0, 1) := by decide +kernel
theorem dX5_isDigit_17 : decode cX5_isDigit 17 = .ok (.ireturn, 1) := by decide +kernel
theorem dX5_keep_0 : decode cX5_keep 0 = .ok (.iload_n 2, 1) := by decide +kernel
theorem dX5_keep_1 : decode cX5_keep 1 = .ok (.ifCond .lt 16, 3) := by decide +kernel
theorem dX5_keep_4 : decode cX5_keep 4 = .ok (.iload_n 3, 1) := by decide +kernel
theorem dX5_keep_5 : decode cX5_keep 5 = .ok (.ifCond .lt 12, 3) := by decide +kernel
theorem dX5_keep_8 : decode cX5_keep 8 = .ok (.aload_n 0, 1) := by decide +kernel
theorem dX5_keep_9 : decode cX5_keep 9 = .ok (.getfield 32, 3) := by decide +kernel
theorem dX5_keep_12 : decode cX5_keep 12 = .ok (.bipush 16, 2) := by decide +kernel
theorem dX5_keep_14 : decode cX5_keep 14 = .ok (.if_icmp .lt 5, 3) := by decide +kernel
theorem dX5_keep_17 : decode cX5_keep 17 = .ok (.iconst 0, 1) := by decide +kernel
theorem dX5_keep_18 : decode cX5_keep 18 = .ok (.ireturn, 1) := by decide +kernel
theorem dX5_keep_19 : decode cX5_keep 19 = .ok (.aload_n 0, 1) := by decide +kernel
theorem dX5_keep_20 : decode cX5_keep 20 = .ok (.getfield 11, 3) := by decide +kernel
theorem dX5_keep_23 : decode cX5_keep 23 = .ok (.aload_n 0, 1) := by decide +kernel
theorem dX5_keep_24 : decode cX5_keep 24 = .ok (.getfield 32, 3) := by decide +kernel
theorem dX5_keep_27 : decode cX5_keep 27 = .ok (.iload_n 1, 1) := by decide +kernel
theorem dX5_keep_28 : decode cX5_keep 28 = .ok (.iastore, 1) := by decide +kernel
theorem dX5_keep_29 : decode cX5_keep 29 = .ok (.aload_n 0, 1) := by decide +kernel
theorem dX5_keep_30 : decode cX5_keep 30 = .ok (.getfield 15, 3) := by decide +kernel
theorem dX5_keep_33 : decode cX5_keep 33 = .ok (.aload_n 0, 1) := by decide +kernel
theorem dX5_keep_34 : decode cX5_keep 34 = .ok (.getfield 32, 3) := by decide +kernel
theorem dX5_keep_37 : decode cX5_keep 37 = .ok (.iload_n 2, 1) := by decide +kernel
theorem dX5_keep_38 : decode cX5_keep 38 = .ok (.iastore, 1) := by decide +kernel
theorem dX5_keep_39 : decode cX5_keep 39 = .ok (.aload_n 0, 1) := by decide +kernel
theorem dX5_keep_40 : decode cX5_keep 40 = .ok (.getfield 18, 3) := by decide +kernel
theorem dX5_keep_43 : decode cX5_keep 43 = .ok (.aload_n 0, 1) := by decide +kernel
theorem dX5_keep_44 : decode cX5_keep 44 = .ok (.getfield 32, 3) := by decide +kernel
theorem dX5_keep_47 : decode cX5_keep 47 = .ok (.iload_n 3, 1) := by decide +kernel
theorem dX5_keep_48 : decode cX5_keep 48 = .ok (.iastore, 1) := by decide +kernel
theorem dX5_keep_49 : decode cX5_keep 49 = .ok (.aload_n 0, 1) := by decide +kernel
theorem dX5_keep_50 : decode cX5_keep 50 = .ok (.dup, 1) := by decide +kernel
theorem dX5_keep_51 : decode cX5_keep 51 = .ok (.getfield 32, 3) := by decide +kernel
theorem dX5_keep_54 : decode cX5_keep 54 = .ok (.iconst 1, 1) := by decide +kernel
theorem dX5_keep_55 : decode cX5_keep 55 = .ok (.iadd, 1) := by decide +kernel
theorem dX5_keep_56 : decode cX5_keep 56 = .ok (.putfield 32, 3) := by decide +kernel
theorem dX5_keep_59 : decode cX5_keep 59 = .ok (.iconst 1, 1) := by decide +kernel
theorem dX5_keep_60 : decode cX5_keep 60 = .ok (.ireturn, 1) := by decide +kernel
theorem dX6_init_0 : decode cX6_init 0 = .ok (.aload_n 0, 1) := by decide +kernel
theorem dX6_init_1 : decode cX6_init 1 = .ok (.invokespecial 3, 3) := by decide +kernel
theorem dX6_init_4 : decode cX6_init 4 = .ok (.aload_n 0, 1) := by decide +kernel
theorem dX6_init_5 : decode cX6_init 5 = .ok (.new 9, 3) := by decide +kernel
theorem dX6_init_8 : decode cX6_init 8 = .ok (.dup, 1) := by decide +kernel
theorem dX6_init_9 : decode cX6_init 9 = .ok (.invokespecial 11, 3) := by decide +kernel
theorem dX6_init_12 : decode cX6_init 12 = .ok (.putfield 12, 3) := by decide +kernel
theorem dX6_init_15 : decode cX6_init 15 = .ok (.aload_n 0, 1) := by decide +kernel
theorem dX6_init_16 : decode cX6_init 16 = .ok (.new 18, 3) := by decide +kernel
theorem dX6_init_19 : decode cX6_init 19 = .ok (.dup, 1) := by decide +kernel
theorem dX6_init_20 : decode cX6_init 20 = .ok (.bipush 6, 2) := by decide +kernel
theorem dX6_init_22 : decode cX6_init 22 = .ok (.invokespecial 20, 3) := by decide +kernel
theorem dX6_init_25 : decode cX6_init 25 = .ok (.putfield 23, 3) := by decide +kernel
theorem dX6_init_28 : decode cX6_init 28 = .ok (.aload_n 0, 1) := by decide +kernel
theorem dX6_init_29 : decode cX6_init 29 = .ok (.new 18, 3) := by decide +kernel
theorem dX6_init_32 : decode cX6_init 32 = .ok (.dup, 1) := by decide +kernel
theorem dX6_init_33 : decode cX6_init 33 = .ok (.bipush 8, 2) := by decide +kernel
theorem dX6_init_35 : decode cX6_init 35 = .ok (.invokespecial 20, 3) := by decide +kernel
theorem dX6_init_38 : decode cX6_init 38 = .ok (.putfield 27, 3) := by decide +kernel
theorem dX6_init_41 : decode cX6_init 41 = .ok (.aload_n 0, 1) := by decide +kernel
theorem dX6_init_42 : decode cX6_init 42 = .ok (.new 18, 3) := by decide +kernel
theorem dX6_init_45 : decode cX6_init 45 = .ok (.dup, 1) := by decide +kernel
theorem dX6_init_46 : decode cX6_init 46 = .ok (.bipush 8, 2) := by decide +kernel
theorem dX6_init_48 : decode cX6_init 48 = .ok (.invokespecial 20, 3) := by decide +kernel
theorem dX6_init_51 : decode cX6_init 51 = .ok (.putfield 30, 3) := by decide +kernel
theorem dX6_init_54 : decode cX6_init 54 = .ok (.return_, 1) := by decide +kernel
theorem dX6_copyFrom_0 : decode cX6_copyFrom 0 = .ok (.aload_n 0, 1) := by decide +kernel
theorem dX6_copyFrom_1 : decode cX6_copyFrom 1 = .ok (.getfield 12, 3) := by decide +kernel
theorem dX6_copyFrom_4 : decode cX6_copyFrom 4 = .ok (.aload_n 1, 1) := by decide +kernel
theorem dX6_copyFrom_5 : decode cX6_copyFrom 5 = .ok (.getfield 12, 3) := by decide +kernel
theorem dX6_copyFrom_8 : decode cX6_copyFrom 8 = .ok (.invokevirtual 33, 3) := by decide +kernel
theorem dX6_copyFrom_11 : decode cX6_copyFrom 11 = .ok (.aload_n 0, 1) := by decide +kernel
theorem dX6_copyFrom_12 : decode cX6_copyFrom 12 = .ok (.getfield 23, 3) := by decide +kernel
theorem dX6_copyFrom_15 : decode cX6_copyFrom 15 = .ok (.aload_n 1, 1) := by decide +kernel
theorem dX6_copyFrom_16 : decode cX6_copyFrom 16 = .ok (.getfield 23, 3) := by decide +kernel
theorem dX6_copyFrom_19 : decode cX6_copyFrom 19 = .ok (.invokevirtual 37, 3) := by decide +kernel
theorem dX6_copyFrom_22 : decode cX6_copyFrom 22 = .ok (.aload_n 0, 1) := by decide +kernel
theorem dX6_copyFrom_23 : decode cX6_copyFrom 23 = .ok (.getfield 27, 3) := by decide +kernel
theorem dX6_copyFrom_26 : decode cX6_copyFrom 26 = .ok (.aload_n 1, 1) := by decide +kernel
theorem dX6_copyFrom_27 : decode cX6_copyFrom 27 = .ok (.getfield 27, 3) := by decide +kernel
theorem dX6_copyFrom_30 : decode cX6_copyFrom 30 = .ok (.invokevirtual 37, 3) := by decide +kernel
theorem dX6_copyFrom_33 : decode cX6_copyFrom 33 = .ok (.aload_n 0, 1) := by decide +kernel
theorem dX6_copyFrom_34 : decode cX6_copyFrom 34 = .ok (.getfield 30, 3) := by decide +kernel
theorem dX6_copyFrom_37 : decode cX6_copyFrom 37 = .ok (.aload_n 1, 1) := by decide +kernel
theorem dX6_copyFrom_38 : decode cX6_copyFrom 38 = .ok (.getfield 30, 3) := by decide +kernel
theorem dX6_copyFrom_41 : decode cX6_copyFrom 41 = .ok (.invokevirtual 37, 3) := by decide +kernel
theorem dX6_copyFrom_44 : decode cX6_copyFrom 44 = .ok (.return_, 1) := by decide +kernel
theorem dX7_init_0 : decode cX7_init 0 = .ok (.aload_n 0, 1) := by decide +kernel
theorem dX7_init_1 : decode cX7_init 1 = .ok (.invokespecial 1, 3) := by decide +kernel
theorem dX7_init_4 : decode cX7_init 4 = .ok (.aload_n 0, 1) := by decide +kernel
theorem dX7_init_5 : decode cX7_init 5 = .ok (.iconst (-1), 1) := by decide +kernel
theorem dX7_init_6 : decode cX7_init 6 = .ok (.putfield 9, 3) := by decide +kernel
theorem dX7_init_9 : decode cX7_init 9 = .ok (.aload_n 0, 1) := by decide +kernel
theorem dX7_init_10 : decode cX7_init 10 = .ok (.bipush 60, 2) := by decide +kernel
theorem dX7_init_12 : decode cX7_init 12 = .ok (.newarray .long, 2) := by decide +kernel
theorem dX7_init_14 : decode cX7_init 14 = .ok (.putfield 13, 3) := by decide +kernel
theorem dX7_init_17 : decode cX7_init 17 = .ok (.return_, 1) := by decide +kernel
theorem dX7_become_0 : decode cX7_become 0 = .ok (.aload_n 0, 1) := by decide +kernel
theorem dX7_become_1 : decode cX7_become 1 = .ok (.iload_n 1, 1) := by decide +kernel
theorem dX7_become_2 : decode cX7_become 2 = .ok (.putfield 9, 3) := by decide +kernel
theorem dX7_become_5 : decode cX7_become 5 = .ok (.aload_n 0, 1) := by decide +kernel
theorem dX7_become_6 : decode cX7_become 6 = .ok (.iload_n 2, 1) := by decide +kernel
theorem dX7_become_7 : decode cX7_become 7 = .ok (.putfield 17, 3) := by decide +kernel
theorem dX7_become_10 : decode cX7_become 10 = .ok (.iconst 0, 1) := by decide +kernel
theorem dX7_become_11 : decode cX7_become 11 = .ok (.istore_n 3, 1) := by decide +kernel
theorem dX7_become_12 : decode cX7_become 12 = .ok (.iload_n 3, 1) := by decide +kernel
theorem dX7_become_13 : decode cX7_become 13 = .ok (.bipush 60, 2) := by decide +kernel
theorem dX7_become_15 : decode cX7_become 15 = .ok (.if_icmp .ge 16, 3) := by decide +kernel
theorem dX7_become_18 : decode cX7_become 18 = .ok (.aload_n 0, 1) := by decide +kernel
theorem dX7_become_19 : decode cX7_become 19 = .ok (.getfield 13, 3) := by decide +kernel
theorem dX7_become_22 : decode cX7_become 22 = .ok (.iload_n 3, 1) := by decide +kernel
theorem dX7_become_23 : decode cX7_become 23 = .ok (.lconst 0, 1) := by decide +kernel
theorem dX7_become_24 : decode cX7_become 24 = .ok (.lastore, 1) := by decide +kernel
theorem dX7_become_25 : decode cX7_become 25 = .ok (.iinc 3 1, 3) := by decide +kernel
theorem dX7_become_28 : decode cX7_become 28 = .ok (.goto (-16), 3) := by decide +kernel
theorem dX7_become_31 : decode cX7_become 31 = .ok (.return_, 1) := by decide +kernel
theorem dX7_hasPlace_0 : decode cX7_hasPlace 0 = .ok (.iload_n 1, 1) := by decide +kernel
theorem dX7_hasPlace_1 : decode cX7_hasPlace 1 = .ok (.ifCond .lt 15, 3) := by decide +kernel
theorem dX7_hasPlace_4 : decode cX7_hasPlace 4 = .ok (.iload_n 1, 1) := by decide +kernel
theorem dX7_hasPlace_5 : decode cX7_hasPlace 5 = .ok (.aload_n 0, 1) := by decide +kernel
theorem dX7_hasPlace_6 : decode cX7_hasPlace 6 = .ok (.getfield 17, 3) := by decide +kernel
theorem dX7_hasPlace_9 : decode cX7_hasPlace 9 = .ok (.if_icmp .ge 7, 3) := by decide +kernel
theorem dX7_hasPlace_12 : decode cX7_hasPlace 12 = .ok (.iconst 1, 1) := by decide +kernel
theorem dX7_hasPlace_13 : decode cX7_hasPlace 13 = .ok (.goto 4, 3) := by decide +kernel
theorem dX7_hasPlace_16 : decode cX7_hasPlace 16 = .ok (.iconst 0, 1) := by decide +kernel
theorem dX7_hasPlace_17 : decode cX7_hasPlace 17 = .ok (.ireturn, 1) := by decide +kernel
theorem dX7_hasRun_0 : decode cX7_hasRun 0 = .ok (.iload_n 1, 1) := by decide +kernel
theorem dX7_hasRun_1 : decode cX7_hasRun 1 = .ok (.ifCond .lt 29, 3) := by decide +kernel
theorem dX7_hasRun_4 : decode cX7_hasRun 4 = .ok (.iload_n 2, 1) := by decide +kernel
theorem dX7_hasRun_5 : decode cX7_hasRun 5 = .ok (.ifCond .lt 25, 3) := by decide +kernel
theorem dX7_hasRun_8 : decode cX7_hasRun 8 = .ok (.iload_n 2, 1) := by decide +kernel
theorem dX7_hasRun_9 : decode cX7_hasRun 9 = .ok (.aload_n 0, 1) := by decide +kernel
theorem dX7_hasRun_10 : decode cX7_hasRun 10 = .ok (.getfield 17, 3) := by decide +kernel
theorem dX7_hasRun_13 : decode cX7_hasRun 13 = .ok (.if_icmp .gt 17, 3) := by decide +kernel
theorem dX7_hasRun_16 : decode cX7_hasRun 16 = .ok (.iload_n 1, 1) := by decide +kernel
theorem dX7_hasRun_17 : decode cX7_hasRun 17 = .ok (.aload_n 0, 1) := by decide +kernel
theorem dX7_hasRun_18 : decode cX7_hasRun 18 = .ok (.getfield 17, 3) := by decide +kernel
theorem dX7_hasRun_21 : decode cX7_hasRun 21 = .ok (.iload_n 2, 1) := by decide +kernel
theorem dX7_hasRun_22 : decode cX7_hasRun 22 = .ok (.isub, 1) := by decide +kernel
theorem dX7_hasRun_23 : decode cX7_hasRun 23 = .ok (.if_icmp .gt 7, 3) := by decide +kernel
theorem dX7_hasRun_26 : decode cX7_hasRun 26 = .ok (.iconst 1, 1) := by decide +kernel
theorem dX7_hasRun_27 : decode cX7_hasRun 27 = .ok (.goto 4, 3) := by decide +kernel
theorem dX7_hasRun_30 : decode cX7_hasRun 30 = .ok (.iconst 0, 1) := by decide +kernel
theorem dX7_hasRun_31 : decode cX7_hasRun 31 = .ok (.ireturn, 1) := by decide +kernel
theorem dX7_asItem_0 : decode cX7_asItem 0 = .ok (.aload_n 0, 1) := by decide +kernel
theorem dX7_asItem_1 : decode cX7_asItem 1 = .ok (.getfield 9, 3) := by decide +kernel
theorem dX7_asItem_4 : decode cX7_asItem 4 = .ok (.tableswitch 48 0 3 #[32, 37, 42, 46], 32) := by decide +kernel
theorem dX7_asItem_36 : decode cX7_asItem 36 = .ok (.lload_n 1, 1) := by decide +kernel
theorem dX7_asItem_37 : decode cX7_asItem 37 = .ok (.l2i, 1) := by decide +kernel
theorem dX7_asItem_38 : decode cX7_asItem 38 = .ok (.i2b, 1) := by decide +kernel
theorem dX7_asItem_39 : decode cX7_asItem 39 = .ok (.i2l, 1) := by decide +kernel
theorem dX7_asItem_40 : decode cX7_asItem 40 = .ok (.lreturn, 1) := by decide +kernel
theorem dX7_asItem_41 : decode cX7_asItem 41 = .ok (.lload_n 1, 1) := by decide +kernel
theorem dX7_asItem_42 : decode cX7_asItem 42 = .ok (.l2i, 1) := by decide +kernel
theorem dX7_asItem_43 : decode cX7_asItem 43 = .ok (.i2s, 1) := by decide +kernel
theorem dX7_asItem_44 : decode cX7_asItem 44 = .ok (.i2l, 1) := by decide +kernel
theorem dX7_asItem_45 : decode cX7_asItem 45 = .ok (.lreturn, 1) := by decide +kernel
theorem dX7_asItem_46 : decode cX7_asItem 46 = .ok (.lload_n 1, 1) := by decide +kernel
theorem dX7_asItem_47 : decode cX7_asItem 47 = .ok (.l2i, 1) := by decide +kernel
theorem dX7_asItem_48 : decode cX7_asItem 48 = .ok (.i2l, 1) := by decide +kernel
theorem dX7_asItem_49 : decode cX7_asItem 49 = .ok (.lreturn, 1) := by decide +kernel
theorem dX7_asItem_50 : decode cX7_asItem 50 = .ok (.lload_n 1, 1) := by decide +kernel
theorem dX7_asItem_51 : decode cX7_asItem 51 = .ok (.lreturn, 1) := by decide +kernel
theorem dX7_asItem_52 : decode cX7_asItem 52 = .ok (.lload_n 1, 1) := by decide +kernel
theorem dX7_asItem_53 : decode cX7_asItem 53 = .ok (.lconst 0, 1) := by decide +kernel
theorem dX7_asItem_54 : decode cX7_asItem 54 = .ok (.lcmp, 1) := by decide +kernel
theorem dX7_asItem_55 : decode cX7_asItem 55 = .ok (.ifCond .eq 7, 3) := by decide +kernel
theorem dX7_asItem_58 : decode cX7_asItem 58 = .ok (.lconst 1, 1) := by decide +kernel
theorem dX7_asItem_59 : decode cX7_asItem 59 = .ok (.goto 4, 3) := by decide +kernel
theorem dX7_asItem_62 : decode cX7_asItem 62 = .ok (.lconst 0, 1) := by decide +kernel
theorem dX7_asItem_63 : decode cX7_asItem 63 = .ok (.lreturn, 1) := by decide +kernel
theorem dX8_init_0 : decode cX8_init 0 = .ok (.aload_n 0, 1) := by decide +kernel
theorem dX8_init_1 : decode cX8_init 1 = .ok (.invokespecial 5, 3) := by decide +kernel
theorem dX8_init_4 : decode cX8_init 4 = .ok (.aload_n 0, 1) := by decide +kernel
theorem dX8_init_5 : decode cX8_init 5 = .ok (.new 11, 3) := by decide +kernel
theorem dX8_init_8 : decode cX8_init 8 = .ok (.dup, 1) := by decide +kernel
theorem dX8_init_9 : decode cX8_init 9 = .ok (.invokespecial 13, 3) := by decide +kernel
theorem dX8_init_12 : decode cX8_init 12 = .ok (.putfield 14, 3) := by decide +kernel
theorem dX8_init_15 : decode cX8_init 15 = .ok (.aload_n 0, 1) := by decide +kernel
theorem dX8_init_16 : decode cX8_init 16 = .ok (.new 11, 3) := by decide +kernel
theorem dX8_init_19 : decode cX8_init 19 = .ok (.dup, 1) := by decide +kernel
theorem dX8_init_20 : decode cX8_init 20 = .ok (.invokespecial 13, 3) := by decide +kernel
theorem dX8_init_23 : decode cX8_init 23 = .ok (.putfield 18, 3) := by decide +kernel
theorem dX8_init_26 : decode cX8_init 26 = .ok (.aload_n 0, 1) := by decide +kernel
theorem dX8_init_27 : decode cX8_init 27 = .ok (.new 21, 3) := by decide +kernel
theorem dX8_init_30 : decode cX8_init 30 = .ok (.dup, 1) := by decide +kernel
theorem dX8_init_31 : decode cX8_init 31 = .ok (.invokespecial 23, 3) := by decide +kernel
theorem dX8_init_34 : decode cX8_init 34 = .ok (.putfield 24, 3) := by decide +kernel
theorem dX8_init_37 : decode cX8_init 37 = .ok (.aload_n 0, 1) := by decide +kernel
theorem dX8_init_38 : decode cX8_init 38 = .ok (.new 28, 3) := by decide +kernel
theorem dX8_init_41 : decode cX8_init 41 = .ok (.dup, 1) := by decide +kernel
theorem dX8_init_42 : decode cX8_init 42 = .ok (.invokespecial 30, 3) := by decide +kernel
theorem dX8_init_45 : decode cX8_init 45 = .ok (.putfield 31, 3) := by decide +kernel
theorem dX8_init_48 : decode cX8_init 48 = .ok (.aload_n 0, 1) := by decide +kernel
theorem dX8_init_49 : decode cX8_init 49 = .ok (.new 35, 3) := by decide +kernel
theorem dX8_init_52 : decode cX8_init 52 = .ok (.dup, 1) := by decide +kernel
theorem dX8_init_53 : decode cX8_init 53 = .ok (.invokespecial 37, 3) := by decide +kernel
theorem dX8_init_56 : decode cX8_init 56 = .ok (.putfield 38, 3) := by decide +kernel
theorem dX8_init_59 : decode cX8_init 59 = .ok (.aload_n 0, 1) := by decide +kernel
theorem dX8_init_60 : decode cX8_init 60 = .ok (.new 42, 3) := by decide +kernel
theorem dX8_init_63 : decode cX8_init 63 = .ok (.dup, 1) := by decide +kernel
theorem dX8_init_64 : decode cX8_init 64 = .ok (.invokespecial 44, 3) := by decide +kernel
theorem dX8_init_67 : decode cX8_init 67 = .ok (.putfield 45, 3) := by decide +kernel
theorem dX8_init_70 : decode cX8_init 70 = .ok (.aload_n 0, 1) := by decide +kernel
theorem dX8_init_71 : decode cX8_init 71 = .ok (.new 49, 3) := by decide +kernel
theorem dX8_init_74 : decode cX8_init 74 = .ok (.dup, 1) := by decide +kernel
theorem dX8_init_75 : decode cX8_init 75 = .ok (.invokespecial 51, 3) := by decide +kernel
theorem dX8_init_78 : decode cX8_init 78 = .ok (.putfield 52, 3) := by decide +kernel
theorem dX8_init_81 : decode cX8_init 81 = .ok (.aload_n 0, 1) := by decide +kernel
theorem dX8_init_82 : decode cX8_init 82 = .ok (.bipush 6, 2) := by decide +kernel
theorem dX8_init_84 : decode cX8_init 84 = .ok (.anewarray 56, 3) := by decide +kernel
theorem dX8_init_87 : decode cX8_init 87 = .ok (.putfield 58, 3) := by decide +kernel
theorem dX8_init_90 : decode cX8_init 90 = .ok (.iconst 0, 1) := by decide +kernel
theorem dX8_init_91 : decode cX8_init 91 = .ok (.istore_n 1, 1) := by decide +kernel
theorem dX8_init_92 : decode cX8_init 92 = .ok (.iload_n 1, 1) := by decide +kernel
theorem dX8_init_93 : decode cX8_init 93 = .ok (.bipush 6, 2) := by decide +kernel
theorem dX8_init_95 : decode cX8_init 95 = .ok (.if_icmp .ge 22, 3) := by decide +kernel
theorem dX8_init_98 : decode cX8_init 98 = .ok (.aload_n 0, 1) := by decide +kernel
theorem dX8_init_99 : decode cX8_init 99 = .ok (.getfield 58, 3) := by decide +kernel
theorem dX8_init_102 : decode cX8_init 102 = .ok (.iload_n 1, 1) := by decide +kernel
theorem dX8_init_103 : decode cX8_init 103 = .ok (.new 56, 3) := by decide +kernel
theorem dX8_init_106 : decode cX8_init 106 = .ok (.dup, 1) := by decide +kernel
theorem dX8_init_107 : decode cX8_init 107 = .ok (.invokespecial 62, 3) := by decide +kernel
theorem dX8_init_110 : decode cX8_init 110 = .ok (.aastore, 1) := by decide +kernel
theorem dX8_init_111 : decode cX8_init 111 = .ok (.iinc 1 1, 3) := by decide +kernel
theorem dX8_init_114 : decode cX8_init 114 = .ok (.goto (-22), 3) := by decide +kernel
theorem dX8_init_117 : decode cX8_init 117 = .ok (.return_, 1) := by decide +kernel
theorem dX8_part_0 : decode cX8_part 0 = .ok (.iload_n 1, 1) := by decide +kernel
theorem dX8_part_1 : decode cX8_part 1 = .ok (.invokestatic 63, 3) := by decide +kernel
theorem dX8_part_4 : decode cX8_part 4 = .ok (.ifCond .ne 6, 3) := by decide +kernel
theorem dX8_part_7 : decode cX8_part 7 = .ok (.bipush (-2), 2) := by decide +kernel
theorem dX8_part_9 : decode cX8_part 9 = .ok (.ireturn, 1) := by decide +kernel
theorem dX8_part_10 : decode cX8_part 10 = .ok (.aload_n 0, 1) := by decide +kernel
theorem dX8_part_11 : decode cX8_part 11 = .ok (.getfield 14, 3) := by decide +kernel
theorem dX8_part_14 : decode cX8_part 14 = .ok (.getfield 67, 3) := by decide +kernel
theorem dX8_part_17 : decode cX8_part 17 = .ok (.iload_n 1, 1) := by decide +kernel
theorem dX8_part_18 : decode cX8_part 18 = .ok (.invokevirtual 70, 3) := by decide +kernel
theorem dX8_part_21 : decode cX8_part 21 = .ok (.ireturn, 1) := by decide +kernel
theorem dX8_gate_0 : decode cX8_gate 0 = .ok (.iload_n 1, 1) := by decide +kernel
theorem dX8_gate_1 : decode cX8_gate 1 = .ok (.invokestatic 74, 3) := by decide +kernel
theorem dX8_gate_4 : decode cX8_gate 4 = .ok (.ifCond .eq 10, 3) := by decide +kernel
theorem dX8_gate_7 : decode cX8_gate 7 = .ok (.iload_n 2, 1) := by decide +kernel
theorem dX8_gate_8 : decode cX8_gate 8 = .ok (.invokestatic 77, 3) := by decide +kernel
theorem dX8_gate_11 : decode cX8_gate 11 = .ok (.ifCond .ne 6, 3) := by decide +kernel
theorem dX8_gate_14 : decode cX8_gate 14 = .ok (.bipush (-2), 2) := by decide +kernel
theorem dX8_gate_16 : decode cX8_gate 16 = .ok (.ireturn, 1) := by decide +kernel
theorem dX8_gate_17 : decode cX8_gate 17 = .ok (.aload_n 0, 1) := by decide +kernel
theorem dX8_gate_18 : decode cX8_gate 18 = .ok (.getfield 14, 3) := by decide +kernel
theorem dX8_gate_21 : decode cX8_gate 21 = .ok (.getfield 67, 3) := by decide +kernel
theorem dX8_gate_24 : decode cX8_gate 24 = .ok (.iload_n 1, 1) := by decide +kernel
theorem dX8_gate_25 : decode cX8_gate 25 = .ok (.iload_n 2, 1) := by decide +kernel
theorem dX8_gate_26 : decode cX8_gate 26 = .ok (.invokevirtual 80, 3) := by decide +kernel
theorem dX8_gate_29 : decode cX8_gate 29 = .ok (.ireturn, 1) := by decide +kernel
theorem dX8_turn_0 : decode cX8_turn 0 = .ok (.aload_n 0, 1) := by decide +kernel
theorem dX8_turn_1 : decode cX8_turn 1 = .ok (.getfield 14, 3) := by decide +kernel
theorem dX8_turn_4 : decode cX8_turn 4 = .ok (.getfield 67, 3) := by decide +kernel
theorem dX8_turn_7 : decode cX8_turn 7 = .ok (.astore 4, 2) := by decide +kernel
theorem dX8_turn_9 : decode cX8_turn 9 = .ok (.aload 4, 2) := by decide +kernel
theorem dX8_turn_11 : decode cX8_turn 11 = .ok (.iload_n 1, 1) := by decide +kernel
theorem dX8_turn_12 : decode cX8_turn 12 = .ok (.invokevirtual 84, 3) := by decide +kernel
theorem dX8_turn_15 : decode cX8_turn 15 = .ok (.ifCond .ne 5, 3) := by decide +kernel
theorem dX8_turn_18 : decode cX8_turn 18 = .ok (.iconst (-1), 1) := by decide +kernel
theorem dX8_turn_19 : decode cX8_turn 19 = .ok (.ireturn, 1) := by decide +kernel
theorem dX8_turn_20 : decode cX8_turn 20 = .ok (.iload_n 2, 1) := by decide +kernel
theorem dX8_turn_21 : decode cX8_turn 21 = .ok (.invokestatic 74, 3) := by decide +kernel
theorem dX8_turn_24 : decode cX8_turn 24 = .ok (.ifCond .eq 10, 3) := by decide +kernel
theorem dX8_turn_27 : decode cX8_turn 27 = .ok (.iload_n 3, 1) := by decide +kernel
theorem dX8_turn_28 : decode cX8_turn 28 = .ok (.invokestatic 77, 3) := by decide +kernel
theorem dX8_turn_31 : decode cX8_turn 31 = .ok (.ifCond .ne 6, 3) := by decide +kernel
theorem dX8_turn_34 : decode cX8_turn 34 = .ok (.bipush (-2), 2) := by decide +kernel
theorem dX8_turn_36 : decode cX8_turn 36 = .ok (.ireturn, 1) := by decide +kernel
theorem dX8_turn_37 : decode cX8_turn 37 = .ok (.bipush 10, 2) := by decide +kernel
theorem dX8_turn_39 : decode cX8_turn 39 = .ok (.aload 4, 2) := by decide +kernel
theorem dX8_turn_41 : decode cX8_turn 41 = .ok (.getfield 87, 3) := by decide +kernel
theorem dX8_turn_44 : decode cX8_turn 44 = .ok (.iload_n 1, 1) := by decide +kernel
theorem dX8_turn_45 : decode cX8_turn 45 = .ok (.iaload, 1) := by decide +kernel
theorem dX8_turn_46 : decode cX8_turn 46 = .ok (.imul, 1) := by decide +kernel
theorem dX8_turn_47 : decode cX8_turn 47 = .ok (.aload 4, 2) := by decide +kernel
theorem dX8_turn_49 : decode cX8_turn 49 = .ok (.getfield 91, 3) := by decide +kernel
theorem dX8_turn_52 : decode cX8_turn 52 = .ok (.iload_n 1, 1) := by decide +kernel
theorem dX8_turn_53 : decode cX8_turn 53 = .ok (.iaload, 1) := by decide +kernel
theorem dX8_turn_54 : decode cX8_turn 54 = .ok (.iadd, 1) := by decide +kernel
theorem dX8_turn_55 : decode cX8_turn 55 = .ok (.istore 5, 2) := by decide +kernel
theorem dX8_turn_57 : decode cX8_turn 57 = .ok (.aload 4, 2) := by decide +kernel
theorem dX8_turn_59 : decode cX8_turn 59 = .ok (.getfield 87, 3) := by decide +kernel
theorem dX8_turn_62 : decode cX8_turn 62 = .ok (.iload_n 1, 1) := by decide +kernel
theorem dX8_turn_63 : decode cX8_turn 63 = .ok (.iload_n 2, 1) := by decide +kernel
theorem dX8_turn_64 : decode cX8_turn 64 = .ok (.iastore, 1) := by decide +kernel
theorem dX8_turn_65 : decode cX8_turn 65 = .ok (.aload 4, 2) := by decide +kernel
theorem dX8_turn_67 : decode cX8_turn 67 = .ok (.getfield 91, 3) := by decide +kernel
theorem dX8_turn_70 : decode cX8_turn 70 = .ok (.iload_n 1, 1) := by decide +kernel
theorem dX8_turn_71 : decode cX8_turn 71 = .ok (.iload_n 3, 1) := by decide +kernel
theorem dX8_turn_72 : decode cX8_turn 72 = .ok (.iastore, 1) := by decide +kernel
theorem dX8_turn_73 : decode cX8_turn 73 = .ok (.iload 5, 2) := by decide +kernel
theorem dX8_turn_75 : decode cX8_turn 75 = .ok (.ireturn, 1) := by decide +kernel
theorem dX8_join_0 : decode cX8_join 0 = .ok (.aload_n 0, 1) := by decide +kernel
theorem dX8_join_1 : decode cX8_join 1 = .ok (.getfield 14, 3) := by decide +kernel
theorem dX8_join_4 : decode cX8_join 4 = .ok (.getfield 67, 3) := by decide +kernel
theorem dX8_join_7 : decode cX8_join 7 = .ok (.astore 4, 2) := by decide +kernel
theorem dX8_join_9 : decode cX8_join 9 = .ok (.aload 4, 2) := by decide +kernel
theorem dX8_join_11 : decode cX8_join 11 = .ok (.iload_n 1, 1) := by decide +kernel
theorem dX8_join_12 : decode cX8_join 12 = .ok (.invokevirtual 84, 3) := by decide +kernel
theorem dX8_join_15 : decode cX8_join 15 = .ok (.ifCond .ne 5, 3) := by decide +kernel
theorem dX8_join_18 : decode cX8_join 18 = .ok (.iconst (-1), 1) := by decide +kernel
theorem dX8_join_19 : decode cX8_join 19 = .ok (.ireturn, 1) := by decide +kernel
theorem dX8_join_20 : decode cX8_join 20 = .ok (.iload_n 2, 1) := by decide +kernel
theorem dX8_join_21 : decode cX8_join 21 = .ok (.ifCond .eq 24, 3) := by decide +kernel
theorem dX8_join_24 : decode cX8_join 24 = .ok (.aload 4, 2) := by decide +kernel
theorem dX8_join_26 : decode cX8_join 26 = .ok (.iload_n 3, 1) := by decide +kernel
theorem dX8_join_27 : decode cX8_join 27 = .ok (.invokevirtual 94, 3) := by decide +kernel
theorem dX8_join_30 : decode cX8_join 30 = .ok (.ifCond .eq 13, 3) := by decide +kernel
theorem dX8_join_33 : decode cX8_join 33 = .ok (.aload 4, 2) := by decide +kernel
theorem dX8_join_35 : decode cX8_join 35 = .ok (.iload_n 1, 1) := by decide +kernel
theorem dX8_join_36 : decode cX8_join 36 = .ok (.iload_n 3, 1) := by decide +kernel
theorem dX8_join_37 : decode cX8_join 37 = .ok (.invokevirtual 97, 3) := by decide +kernel
theorem dX8_join_40 : decode cX8_join 40 = .ok (.goto 4, 3) := by decide +kernel
theorem dX8_join_43 : decode cX8_join 43 = .ok (.iconst (-1), 1) := by decide +kernel
theorem dX8_join_44 : decode cX8_join 44 = .ok (.ireturn, 1) := by decide +kernel
theorem dX8_join_45 : decode cX8_join 45 = .ok (.aload 4, 2) := by decide +kernel
theorem dX8_join_47 : decode cX8_join 47 = .ok (.iload_n 3, 1) := by decide +kernel
theorem dX8_join_48 : decode cX8_join 48 = .ok (.invokevirtual 84, 3) := by decide +kernel
theorem dX8_join_51 : decode cX8_join 51 = .ok (.ifCond .ne 5, 3) := by decide +kernel
theorem dX8_join_54 : decode cX8_join 54 = .ok (.iconst (-1), 1) := by decide +kernel
theorem dX8_join_55 : decode cX8_join 55 = .ok (.ireturn, 1) := by decide +kernel
theorem dX8_join_56 : decode cX8_join 56 = .ok (.iload_n 3, 1) := by decide +kernel
theorem dX8_join_57 : decode cX8_join 57 = .ok (.iload_n 1, 1) := by decide +kernel
theorem dX8_join_58 : decode cX8_join 58 = .ok (.if_icmp .lt 6, 3) := by decide +kernel
theorem dX8_join_61 : decode cX8_join 61 = .ok (.bipush (-3), 2) := by decide +kernel
theorem dX8_join_63 : decode cX8_join 63 = .ok (.ireturn, 1) := by decide +kernel
theorem dX8_join_64 : decode cX8_join 64 = .ok (.aload 4, 2) := by decide +kernel
theorem dX8_join_66 : decode cX8_join 66 = .ok (.iload_n 1, 1) := by decide +kernel
theorem dX8_join_67 : decode cX8_join 67 = .ok (.bipush 10, 2) := by decide +kernel
theorem dX8_join_69 : decode cX8_join 69 = .ok (.iload_n 3, 1) := by decide +kernel
theorem dX8_join_70 : decode cX8_join 70 = .ok (.iadd, 1) := by decide +kernel
theorem dX8_join_71 : decode cX8_join 71 = .ok (.invokevirtual 97, 3) := by decide +kernel
theorem dX8_join_74 : decode cX8_join 74 = .ok (.ireturn, 1) := by decide +kernel
theorem dX8_drop_0 : decode cX8_drop 0 = .ok (.aload_n 0, 1) := by decide +kernel
theorem dX8_drop_1 : decode cX8_drop 1 = .ok (.getfield 14, 3) := by decide +kernel
theorem dX8_drop_4 : decode cX8_drop 4 = .ok (.getfield 67, 3) := by decide +kernel
theorem dX8_drop_7 : decode cX8_drop 7 = .ok (.astore_n 2, 1) := by decide +kernel
theorem dX8_drop_8 : decode cX8_drop 8 = .ok (.aload_n 2, 1) := by decide +kernel
theorem dX8_drop_9 : decode cX8_drop 9 = .ok (.iload_n 1, 1) := by decide +kernel
theorem dX8_drop_10 : decode cX8_drop 10 = .ok (.invokevirtual 84, 3) := by decide +kernel
theorem dX8_drop_13 : decode cX8_drop 13 = .ok (.ifCond .ne 5, 3) := by decide +kernel
theorem dX8_drop_16 : decode cX8_drop 16 = .ok (.iconst (-1), 1) := by decide +kernel
theorem dX8_drop_17 : decode cX8_drop 17 = .ok (.ireturn, 1) := by decide +kernel
theorem dX8_drop_18 : decode cX8_drop 18 = .ok (.aload_n 2, 1) := by decide +kernel
theorem dX8_drop_19 : decode cX8_drop 19 = .ok (.getfield 100, 3) := by decide +kernel
theorem dX8_drop_22 : decode cX8_drop 22 = .ok (.iload_n 1, 1) := by decide +kernel
theorem dX8_drop_23 : decode cX8_drop 23 = .ok (.iaload, 1) := by decide +kernel
theorem dX8_drop_24 : decode cX8_drop 24 = .ok (.ifCond .ne 6, 3) := by decide +kernel
theorem dX8_drop_27 : decode cX8_drop 27 = .ok (.bipush (-3), 2) := by decide +kernel
theorem dX8_drop_29 : decode cX8_drop 29 = .ok (.ireturn, 1) := by decide +kernel
theorem dX8_drop_30 : decode cX8_drop 30 = .ok (.aload_n 2, 1) := by decide +kernel
theorem dX8_drop_31 : decode cX8_drop 31 = .ok (.getfield 100, 3) := by decide +kernel
theorem dX8_drop_34 : decode cX8_drop 34 = .ok (.iload_n 1, 1) := by decide +kernel
theorem dX8_drop_35 : decode cX8_drop 35 = .ok (.dup2, 1) := by decide +kernel
theorem dX8_drop_36 : decode cX8_drop 36 = .ok (.iaload, 1) := by decide +kernel
theorem dX8_drop_37 : decode cX8_drop 37 = .ok (.iconst 1, 1) := by decide +kernel
theorem dX8_drop_38 : decode cX8_drop 38 = .ok (.isub, 1) := by decide +kernel
theorem dX8_drop_39 : decode cX8_drop 39 = .ok (.iastore, 1) := by decide +kernel
theorem dX8_drop_40 : decode cX8_drop 40 = .ok (.aload_n 2, 1) := by decide +kernel
theorem dX8_drop_41 : decode cX8_drop 41 = .ok (.getfield 100, 3) := by decide +kernel
theorem dX8_drop_44 : decode cX8_drop 44 = .ok (.iload_n 1, 1) := by decide +kernel
theorem dX8_drop_45 : decode cX8_drop 45 = .ok (.iaload, 1) := by decide +kernel
theorem dX8_drop_46 : decode cX8_drop 46 = .ok (.ireturn, 1) := by decide +kernel
theorem dX8_top_0 : decode cX8_top 0 = .ok (.aload_n 0, 1) := by decide +kernel
theorem dX8_top_1 : decode cX8_top 1 = .ok (.getfield 14, 3) := by decide +kernel
theorem dX8_top_4 : decode cX8_top 4 = .ok (.getfield 67, 3) := by decide +kernel
theorem dX8_top_7 : decode cX8_top 7 = .ok (.astore_n 2, 1) := by decide +kernel
theorem dX8_top_8 : decode cX8_top 8 = .ok (.iload_n 1, 1) := by decide +kernel
theorem dX8_top_9 : decode cX8_top 9 = .ok (.iconst (-1), 1) := by decide +kernel
theorem dX8_top_10 : decode cX8_top 10 = .ok (.if_icmp .eq 13, 3) := by decide +kernel
theorem dX8_top_13 : decode cX8_top 13 = .ok (.aload_n 2, 1) := by decide +kernel
theorem dX8_top_14 : decode cX8_top 14 = .ok (.iload_n 1, 1) := by decide +kernel
theorem dX8_top_15 : decode cX8_top 15 = .ok (.invokevirtual 84, 3) := by decide +kernel
theorem dX8_top_18 : decode cX8_top 18 = .ok (.ifCond .ne 5, 3) := by decide +kernel
theorem dX8_top_21 : decode cX8_top 21 = .ok (.iconst (-1), 1) := by decide +kernel
theorem dX8_top_22 : decode cX8_top 22 = .ok (.ireturn, 1) := by decide +kernel
theorem dX8_top_23 : decode cX8_top 23 = .ok (.aload_n 2, 1) := by decide +kernel
theorem dX8_top_24 : decode cX8_top 24 = .ok (.invokevirtual 103, 3) := by decide +kernel
theorem dX8_top_27 : decode cX8_top 27 = .ok (.istore_n 3, 1) := by decide +kernel
theorem dX8_top_28 : decode cX8_top 28 = .ok (.aload_n 2, 1) := by decide +kernel
theorem dX8_top_29 : decode cX8_top 29 = .ok (.iload_n 1, 1) := by decide +kernel
theorem dX8_top_30 : decode cX8_top 30 = .ok (.putfield 107, 3) := by decide +kernel
theorem dX8_top_33 : decode cX8_top 33 = .ok (.iload_n 3, 1) := by decide +kernel
theorem dX8_top_34 : decode cX8_top 34 = .ok (.ireturn, 1) := by decide +kernel
theorem dX8_cause_0 : decode cX8_cause 0 = .ok (.iload_n 1, 1) := by decide +kernel
theorem dX8_cause_1 : decode cX8_cause 1 = .ok (.invokestatic 63, 3) := by decide +kernel
theorem dX8_cause_4 : decode cX8_cause 4 = .ok (.ifCond .eq 17, 3) := by decide +kernel
theorem dX8_cause_7 : decode cX8_cause 7 = .ok (.aload_n 0, 1) := by decide +kernel
theorem dX8_cause_8 : decode cX8_cause 8 = .ok (.getfield 14, 3) := by decide +kernel
theorem dX8_cause_11 : decode cX8_cause 11 = .ok (.getfield 67, 3) := by decide +kernel
theorem dX8_cause_14 : decode cX8_cause 14 = .ok (.iload_n 2, 1) := by decide +kernel
theorem dX8_cause_15 : decode cX8_cause 15 = .ok (.invokevirtual 111, 3) := by decide +kernel
theorem dX8_cause_18 : decode cX8_cause 18 = .ok (.ifCond .ne 6, 3) := by decide +kernel
theorem dX8_cause_21 : decode cX8_cause 21 = .ok (.bipush (-2), 2) := by decide +kernel
theorem dX8_cause_23 : decode cX8_cause 23 = .ok (.ireturn, 1) := by decide +kernel
theorem dX8_cause_24 : decode cX8_cause 24 = .ok (.aload_n 0, 1) := by decide +kernel
theorem dX8_cause_25 : decode cX8_cause 25 = .ok (.getfield 14, 3) := by decide +kernel
theorem dX8_cause_28 : decode cX8_cause 28 = .ok (.getfield 67, 3) := by decide +kernel
theorem dX8_cause_31 : decode cX8_cause 31 = .ok (.iload_n 1, 1) := by decide +kernel
theorem dX8_cause_32 : decode cX8_cause 32 = .ok (.iload_n 2, 1) := by decide +kernel
theorem dX8_cause_33 : decode cX8_cause 33 = .ok (.invokevirtual 114, 3) := by decide +kernel
theorem dX8_cause_36 : decode cX8_cause 36 = .ok (.ireturn, 1) := by decide +kernel
theorem dX8_odds_0 : decode cX8_odds 0 = .ok (.aload_n 0, 1) := by decide +kernel
theorem dX8_odds_1 : decode cX8_odds 1 = .ok (.getfield 14, 3) := by decide +kernel
theorem dX8_odds_4 : decode cX8_odds 4 = .ok (.getfield 67, 3) := by decide +kernel
theorem dX8_odds_7 : decode cX8_odds 7 = .ok (.astore 4, 2) := by decide +kernel
theorem dX8_odds_9 : decode cX8_odds 9 = .ok (.iload_n 1, 1) := by decide +kernel
theorem dX8_odds_10 : decode cX8_odds 10 = .ok (.ifCond .ne 16, 3) := by decide +kernel
theorem dX8_odds_13 : decode cX8_odds 13 = .ok (.aload 4, 2) := by decide +kernel
theorem dX8_odds_15 : decode cX8_odds 15 = .ok (.iload_n 2, 1) := by decide +kernel
theorem dX8_odds_16 : decode cX8_odds 16 = .ok (.invokevirtual 94, 3) := by decide +kernel
theorem dX8_odds_19 : decode cX8_odds 19 = .ok (.ifCond .eq 7, 3) := by decide +kernel
theorem dX8_odds_22 : decode cX8_odds 22 = .ok (.iconst 1, 1) := by decide +kernel
theorem dX8_odds_23 : decode cX8_odds 23 = .ok (.goto 4, 3) := by decide +kernel
theorem dX8_odds_26 : decode cX8_odds 26 = .ok (.iconst 0, 1) := by decide +kernel
theorem dX8_odds_27 : decode cX8_odds 27 = .ok (.istore 5, 2) := by decide +kernel
theorem dX8_odds_29 : decode cX8_odds 29 = .ok (.iload_n 1, 1) := by decide +kernel
theorem dX8_odds_30 : decode cX8_odds 30 = .ok (.iconst 1, 1) := by decide +kernel
theorem dX8_odds_31 : decode cX8_odds 31 = .ok (.if_icmp .ne 16, 3) := by decide +kernel
theorem dX8_odds_34 : decode cX8_odds 34 = .ok (.aload 4, 2) := by decide +kernel
theorem dX8_odds_36 : decode cX8_odds 36 = .ok (.iload_n 2, 1) := by decide +kernel
theorem dX8_odds_37 : decode cX8_odds 37 = .ok (.invokevirtual 117, 3) := by decide +kernel
theorem dX8_odds_40 : decode cX8_odds 40 = .ok (.ifCond .eq 7, 3) := by decide +kernel
theorem dX8_odds_43 : decode cX8_odds 43 = .ok (.iconst 1, 1) := by decide +kernel
theorem dX8_odds_44 : decode cX8_odds 44 = .ok (.goto 4, 3) := by decide +kernel
theorem dX8_odds_47 : decode cX8_odds 47 = .ok (.iconst 0, 1) := by decide +kernel
theorem dX8_odds_48 : decode cX8_odds 48 = .ok (.istore 6, 2) := by decide +kernel
theorem dX8_odds_50 : decode cX8_odds 50 = .ok (.iload 5, 2) := by decide +kernel
theorem dX8_odds_52 : decode cX8_odds 52 = .ok (.ifCond .ne 10, 3) := by decide +kernel
theorem dX8_odds_55 : decode cX8_odds 55 = .ok (.iload 6, 2) := by decide +kernel
theorem dX8_odds_57 : decode cX8_odds 57 = .ok (.ifCond .ne 5, 3) := by decide +kernel
theorem dX8_odds_60 : decode cX8_odds 60 = .ok (.iconst (-1), 1) := by decide +kernel
theorem dX8_odds_61 : decode cX8_odds 61 = .ok (.ireturn, 1) := by decide +kernel
theorem dX8_odds_62 : decode cX8_odds 62 = .ok (.iload_n 3, 1) := by decide +kernel
theorem dX8_odds_63 : decode cX8_odds 63 = .ok (.invokestatic 63, 3) := by decide +kernel
theorem dX8_odds_66 : decode cX8_odds 66 = .ok (.ifCond .ne 6, 3) := by decide +kernel
theorem dX8_odds_69 : decode cX8_odds 69 = .ok (.bipush (-2), 2) := by decide +kernel
theorem dX8_odds_71 : decode cX8_odds 71 = .ok (.ireturn, 1) := by decide +kernel
theorem dX8_odds_72 : decode cX8_odds 72 = .ok (.iload 5, 2) := by decide +kernel
theorem dX8_odds_74 : decode cX8_odds 74 = .ok (.ifCond .eq 11, 3) := by decide +kernel
theorem dX8_odds_77 : decode cX8_odds 77 = .ok (.aload 4, 2) := by decide +kernel
theorem dX8_odds_79 : decode cX8_odds 79 = .ok (.getfield 120, 3) := by decide +kernel
theorem dX8_odds_82 : decode cX8_odds 82 = .ok (.goto 8, 3) := by decide +kernel
theorem dX8_odds_85 : decode cX8_odds 85 = .ok (.aload 4, 2) := by decide +kernel
theorem dX8_odds_87 : decode cX8_odds 87 = .ok (.getfield 123, 3) := by decide +kernel
theorem dX8_odds_90 : decode cX8_odds 90 = .ok (.astore 7, 2) := by decide +kernel
theorem dX8_odds_92 : decode cX8_odds 92 = .ok (.aload 7, 2) := by decide +kernel
theorem dX8_odds_94 : decode cX8_odds 94 = .ok (.iload_n 2, 1) := by decide +kernel
theorem dX8_odds_95 : decode cX8_odds 95 = .ok (.iaload, 1) := by decide +kernel
theorem dX8_odds_96 : decode cX8_odds 96 = .ok (.istore 8, 2) := by decide +kernel
theorem dX8_odds_98 : decode cX8_odds 98 = .ok (.aload 7, 2) := by decide +kernel
theorem dX8_odds_100 : decode cX8_odds 100 = .ok (.iload_n 2, 1) := by decide +kernel
theorem dX8_odds_101 : decode cX8_odds 101 = .ok (.iload_n 3, 1) := by decide +kernel
theorem dX8_odds_102 : decode cX8_odds 102 = .ok (.iastore, 1) := by decide +kernel
theorem dX8_odds_103 : decode cX8_odds 103 = .ok (.iload 8, 2) := by decide +kernel
theorem dX8_odds_105 : decode cX8_odds 105 = .ok (.ireturn, 1) := by decide +kernel
theorem dX8_of_0 : decode cX8_of 0 = .ok (.iload_n 1, 1) := by decide +kernel
theorem dX8_of_1 : decode cX8_of 1 = .ok (.tableswitch 66 0 2 #[27, 40, 53], 27) := by decide +kernel
theorem dX8_of_28 : decode cX8_of 28 = .ok (.aload_n 0, 1) := by decide +kernel
theorem dX8_of_29 : decode cX8_of 29 = .ok (.getfield 14, 3) := by decide +kernel
theorem dX8_of_32 : decode cX8_of 32 = .ok (.getfield 67, 3) := by decide +kernel
theorem dX8_of_35 : decode cX8_of 35 = .ok (.iload_n 2, 1) := by decide +kernel
theorem dX8_of_36 : decode cX8_of 36 = .ok (.iload_n 3, 1) := by decide +kernel
theorem dX8_of_37 : decode cX8_of 37 = .ok (.invokevirtual 126, 3) := by decide +kernel
theorem dX8_of_40 : decode cX8_of 40 = .ok (.ireturn, 1) := by decide +kernel
theorem dX8_of_41 : decode cX8_of 41 = .ok (.aload_n 0, 1) := by decide +kernel
theorem dX8_of_42 : decode cX8_of 42 = .ok (.getfield 14, 3) := by decide +kernel
theorem dX8_of_45 : decode cX8_of 45 = .ok (.getfield 67, 3) := by decide +kernel
theorem dX8_of_48 : decode cX8_of 48 = .ok (.iload_n 2, 1) := by decide +kernel
theorem dX8_of_49 : decode cX8_of 49 = .ok (.iload_n 3, 1) := by decide +kernel
theorem dX8_of_50 : decode cX8_of 50 = .ok (.invokevirtual 129, 3) := by decide +kernel
theorem dX8_of_53 : decode cX8_of 53 = .ok (.ireturn, 1) := by decide +kernel
theorem dX8_of_54 : decode cX8_of 54 = .ok (.aload_n 0, 1) := by decide +kernel
theorem dX8_of_55 : decode cX8_of 55 = .ok (.getfield 14, 3) := by decide +kernel
theorem dX8_of_58 : decode cX8_of 58 = .ok (.getfield 67, 3) := by decide +kernel
theorem dX8_of_61 : decode cX8_of 61 = .ok (.iload_n 2, 1) := by decide +kernel
theorem dX8_of_62 : decode cX8_of 62 = .ok (.iload_n 3, 1) := by decide +kernel
theorem dX8_of_63 : decode cX8_of 63 = .ok (.invokevirtual 132, 3) := by decide +kernel
theorem dX8_of_66 : decode cX8_of 66 = .ok (.ireturn, 1) := by decide +kernel
theorem dX8_of_67 : decode cX8_of 67 = .ok (.iconst (-1), 1) := by decide +kernel
theorem dX8_of_68 : decode cX8_of 68 = .ok (.ireturn, 1) := by decide +kernel
theorem dX8_feed_0 : decode cX8_feed 0 = .ok (.iload_n 1, 1) := by decide +kernel
theorem dX8_feed_1 : decode cX8_feed 1 = .ok (.ifCond .lt 9, 3) := by decide +kernel
theorem dX8_feed_4 : decode cX8_feed 4 = .ok (.iload_n 1, 1) := by decide +kernel
theorem dX8_feed_5 : decode cX8_feed 5 = .ok (.bipush 127, 2) := by decide +kernel
theorem dX8_feed_7 : decode cX8_feed 7 = .ok (.if_icmp .le 6, 3) := by decide +kernel
theorem dX8_feed_10 : decode cX8_feed 10 = .ok (.bipush (-2), 2) := by decide +kernel
theorem dX8_feed_12 : decode cX8_feed 12 = .ok (.ireturn, 1) := by decide +kernel
theorem dX8_feed_13 : decode cX8_feed 13 = .ok (.aload_n 0, 1) := by decide +kernel
theorem dX8_feed_14 : decode cX8_feed 14 = .ok (.getfield 52, 3) := by decide +kernel
theorem dX8_feed_17 : decode cX8_feed 17 = .ok (.iload_n 1, 1) := by decide +kernel
theorem dX8_feed_18 : decode cX8_feed 18 = .ok (.invokevirtual 135, 3) := by decide +kernel
theorem dX8_feed_21 : decode cX8_feed 21 = .ok (.ireturn, 1) := by decide +kernel
theorem dX8_read_0 : decode cX8_read 0 = .ok (.aload_n 0, 1) := by decide +kernel
theorem dX8_read_1 : decode cX8_read 1 = .ok (.getfield 52, 3) := by decide +kernel
theorem dX8_read_4 : decode cX8_read 4 = .ok (.invokevirtual 138, 3) := by decide +kernel
theorem dX8_read_7 : decode cX8_read 7 = .ok (.istore_n 1, 1) := by decide +kernel
theorem dX8_read_8 : decode cX8_read 8 = .ok (.aload_n 0, 1) := by decide +kernel
theorem dX8_read_9 : decode cX8_read 9 = .ok (.getfield 52, 3) := by decide +kernel
theorem dX8_read_12 : decode cX8_read 12 = .ok (.iconst 0, 1) := by decide +kernel
theorem dX8_read_13 : decode cX8_read 13 = .ok (.putfield 142, 3) := by decide +kernel
theorem dX8_read_16 : decode cX8_read 16 = .ok (.iload_n 1, 1) := by decide +kernel
theorem dX8_read_17 : decode cX8_read 17 = .ok (.ifCond .ne 14, 3) := by decide +kernel
theorem dX8_read_20 : decode cX8_read 20 = .ok (.bipush (-10), 2) := by decide +kernel
theorem dX8_read_22 : decode cX8_read 22 = .ok (.aload_n 0, 1) := by decide +kernel
theorem dX8_read_23 : decode cX8_read 23 = .ok (.getfield 52, 3) := by decide +kernel
theorem dX8_read_26 : decode cX8_read 26 = .ok (.getfield 145, 3) := by decide +kernel
theorem dX8_read_29 : decode cX8_read 29 = .ok (.isub, 1) := by decide +kernel
theorem dX8_read_30 : decode cX8_read 30 = .ok (.ireturn, 1) := by decide +kernel
theorem dX8_read_31 : decode cX8_read 31 = .ok (.iconst 0, 1) := by decide +kernel
theorem dX8_read_32 : decode cX8_read 32 = .ok (.istore_n 2, 1) := by decide +kernel
theorem dX8_read_33 : decode cX8_read 33 = .ok (.iconst 0, 1) := by decide +kernel
theorem dX8_read_34 : decode cX8_read 34 = .ok (.istore_n 3, 1) := by decide +kernel
theorem dX8_read_35 : decode cX8_read 35 = .ok (.iload_n 3, 1) := by decide +kernel
theorem dX8_read_36 : decode cX8_read 36 = .ok (.aload_n 0, 1) := by decide +kernel
theorem dX8_read_37 : decode cX8_read 37 = .ok (.getfield 52, 3) := by decide +kernel
theorem dX8_read_40 : decode cX8_read 40 = .ok (.getfield 148, 3) := by decide +kernel
theorem dX8_read_43 : decode cX8_read 43 = .ok (.if_icmp .ge 20, 3) := by decide +kernel
theorem dX8_read_46 : decode cX8_read 46 = .ok (.aload_n 0, 1) := by decide +kernel
theorem dX8_read_47 : decode cX8_read 47 = .ok (.iload_n 3, 1) := by decide +kernel
theorem dX8_read_48 : decode cX8_read 48 = .ok (.invokevirtual 151, 3) := by decide +kernel
theorem dX8_read_51 : decode cX8_read 51 = .ok (.ifCond .lt 6, 3) := by decide +kernel
theorem dX8_read_54 : decode cX8_read 54 = .ok (.iinc 2 1, 3) := by decide +kernel
theorem dX8_read_57 : decode cX8_read 57 = .ok (.iinc 3 1, 3) := by decide +kernel
theorem dX8_read_60 : decode cX8_read 60 = .ok (.goto (-25), 3) := by decide +kernel
theorem dX8_read_63 : decode cX8_read 63 = .ok (.iload_n 2, 1) := by decide +kernel
theorem dX8_read_64 : decode cX8_read 64 = .ok (.ireturn, 1) := by decide +kernel
theorem dX8_obey_0 : decode cX8_obey 0 = .ok (.aload_n 0, 1) := by decide +kernel
theorem dX8_obey_1 : decode cX8_obey 1 = .ok (.getfield 52, 3) := by decide +kernel
theorem dX8_obey_4 : decode cX8_obey 4 = .ok (.getfield 154, 3) := by decide +kernel
theorem dX8_obey_7 : decode cX8_obey 7 = .ok (.iload_n 1, 1) := by decide +kernel
theorem dX8_obey_8 : decode cX8_obey 8 = .ok (.iaload, 1) := by decide +kernel
theorem dX8_obey_9 : decode cX8_obey 9 = .ok (.istore_n 2, 1) := by decide +kernel
theorem dX8_obey_10 : decode cX8_obey 10 = .ok (.aload_n 0, 1) := by decide +kernel
theorem dX8_obey_11 : decode cX8_obey 11 = .ok (.getfield 52, 3) := by decide +kernel
theorem dX8_obey_14 : decode cX8_obey 14 = .ok (.getfield 157, 3) := by decide +kernel
theorem dX8_obey_17 : decode cX8_obey 17 = .ok (.iload_n 1, 1) := by decide +kernel
theorem dX8_obey_18 : decode cX8_obey 18 = .ok (.iaload, 1) := by decide +kernel
theorem dX8_obey_19 : decode cX8_obey 19 = .ok (.istore_n 3, 1) := by decide +kernel
theorem dX8_obey_20 : decode cX8_obey 20 = .ok (.aload_n 0, 1) := by decide +kernel
theorem dX8_obey_21 : decode cX8_obey 21 = .ok (.getfield 52, 3) := by decide +kernel
theorem dX8_obey_24 : decode cX8_obey 24 = .ok (.getfield 160, 3) := by decide +kernel
theorem dX8_obey_27 : decode cX8_obey 27 = .ok (.iload_n 1, 1) := by decide +kernel
theorem dX8_obey_28 : decode cX8_obey 28 = .ok (.iaload, 1) := by decide +kernel
theorem dX8_obey_29 : decode cX8_obey 29 = .ok (.tableswitch 71 0 4 #[35, 41, 48, 56, 64], 35) := by decide +kernel
theorem dX8_obey_64 : decode cX8_obey 64 = .ok (.aload_n 0, 1) := by decide +kernel
theorem dX8_obey_65 : decode cX8_obey 65 = .ok (.iload_n 2, 1) := by decide +kernel
theorem dX8_obey_66 : decode cX8_obey 66 = .ok (.invokevirtual 163, 3) := by decide +kernel
theorem dX8_obey_69 : decode cX8_obey 69 = .ok (.ireturn, 1) := by decide +kernel
theorem dX8_obey_70 : decode cX8_obey 70 = .ok (.aload_n 0, 1) := by decide +kernel
theorem dX8_obey_71 : decode cX8_obey 71 = .ok (.iload_n 2, 1) := by decide +kernel
theorem dX8_obey_72 : decode cX8_obey 72 = .ok (.iload_n 3, 1) := by decide +kernel
theorem dX8_obey_73 : decode cX8_obey 73 = .ok (.invokevirtual 166, 3) := by decide +kernel
theorem dX8_obey_76 : decode cX8_obey 76 = .ok (.ireturn, 1) := by decide +kernel
theorem dX8_obey_77 : decode cX8_obey 77 = .ok (.aload_n 0, 1) := by decide +kernel
theorem dX8_obey_78 : decode cX8_obey 78 = .ok (.iload_n 2, 1) := by decide +kernel
theorem dX8_obey_79 : decode cX8_obey 79 = .ok (.iconst 1, 1) := by decide +kernel
theorem dX8_obey_80 : decode cX8_obey 80 = .ok (.iload_n 3, 1) := by decide +kernel
theorem dX8_obey_81 : decode cX8_obey 81 = .ok (.invokevirtual 169, 3) := by decide +kernel
theorem dX8_obey_84 : decode cX8_obey 84 = .ok (.ireturn, 1) := by decide +kernel
theorem dX8_obey_85 : decode cX8_obey 85 = .ok (.aload_n 0, 1) := by decide +kernel
theorem dX8_obey_86 : decode cX8_obey 86 = .ok (.iload_n 2, 1) := by decide +kernel
theorem dX8_obey_87 : decode cX8_obey 87 = .ok (.iconst 0, 1) := by decide +kernel
theorem dX8_obey_88 : decode cX8_obey 88 = .ok (.iload_n 3, 1) := by decide +kernel
theorem dX8_obey_89 : decode cX8_obey 89 = .ok (.invokevirtual 169, 3) := by decide +kernel
theorem dX8_obey_92 : decode cX8_obey 92 = .ok (.ireturn, 1) := by decide +kernel
theorem dX8_obey_93 : decode cX8_obey 93 = .ok (.aload_n 0, 1) := by decide +kernel
theorem dX8_obey_94 : decode cX8_obey 94 = .ok (.iload_n 2, 1) := by decide +kernel
theorem dX8_obey_95 : decode cX8_obey 95 = .ok (.iload_n 3, 1) := by decide +kernel
theorem dX8_obey_96 : decode cX8_obey 96 = .ok (.invokevirtual 173, 3) := by decide +kernel
theorem dX8_obey_99 : decode cX8_obey 99 = .ok (.ireturn, 1) := by decide +kernel
theorem dX8_obey_100 : decode cX8_obey 100 = .ok (.iconst (-1), 1) := by decide +kernel
theorem dX8_obey_101 : decode cX8_obey 101 = .ok (.ireturn, 1) := by decide +kernel
theorem dX8_fails_0 : decode cX8_fails 0 = .ok (.aload_n 0, 1) := by decide +kernel
theorem dX8_fails_1 : decode cX8_fails 1 = .ok (.getfield 14, 3) := by decide +kernel
theorem dX8_fails_4 : decode cX8_fails 4 = .ok (.getfield 67, 3) := by decide +kernel
theorem dX8_fails_7 : decode cX8_fails 7 = .ok (.astore_n 3, 1) := by decide +kernel
theorem dX8_fails_8 : decode cX8_fails 8 = .ok (.iload_n 1, 1) := by decide +kernel
theorem dX8_fails_9 : decode cX8_fails 9 = .ok (.iconst (-1), 1) := by decide +kernel
theorem dX8_fails_10 : decode cX8_fails 10 = .ok (.if_icmp .ne 10, 3) := by decide +kernel
theorem dX8_fails_13 : decode cX8_fails 13 = .ok (.aload_n 3, 1) := by decide +kernel
theorem dX8_fails_14 : decode cX8_fails 14 = .ok (.invokevirtual 103, 3) := by decide +kernel
theorem dX8_fails_17 : decode cX8_fails 17 = .ok (.goto 4, 3) := by decide +kernel
theorem dX8_fails_20 : decode cX8_fails 20 = .ok (.iload_n 1, 1) := by decide +kernel
theorem dX8_fails_21 : decode cX8_fails 21 = .ok (.istore 4, 2) := by decide +kernel
theorem dX8_fails_23 : decode cX8_fails 23 = .ok (.aload_n 3, 1) := by decide +kernel
theorem dX8_fails_24 : decode cX8_fails 24 = .ok (.iload 4, 2) := by decide +kernel
theorem dX8_fails_26 : decode cX8_fails 26 = .ok (.invokevirtual 84, 3) := by decide +kernel
theorem dX8_fails_29 : decode cX8_fails 29 = .ok (.ifCond .ne 5, 3) := by decide +kernel
theorem dX8_fails_32 : decode cX8_fails 32 = .ok (.iconst (-1), 1) := by decide +kernel
theorem dX8_fails_33 : decode cX8_fails 33 = .ok (.ireturn, 1) := by decide +kernel
theorem dX8_fails_34 : decode cX8_fails 34 = .ok (.aload_n 3, 1) := by decide +kernel
theorem dX8_fails_35 : decode cX8_fails 35 = .ok (.iload_n 2, 1) := by decide +kernel
theorem dX8_fails_36 : decode cX8_fails 36 = .ok (.invokevirtual 111, 3) := by decide +kernel
theorem dX8_fails_39 : decode cX8_fails 39 = .ok (.ifCond .ne 6, 3) := by decide +kernel
theorem dX8_fails_42 : decode cX8_fails 42 = .ok (.bipush (-2), 2) := by decide +kernel
theorem dX8_fails_44 : decode cX8_fails 44 = .ok (.ireturn, 1) := by decide +kernel
theorem dX8_fails_45 : decode cX8_fails 45 = .ok (.aload_n 3, 1) := by decide +kernel
theorem dX8_fails_46 : decode cX8_fails 46 = .ok (.iload 4, 2) := by decide +kernel
theorem dX8_fails_48 : decode cX8_fails 48 = .ok (.invokevirtual 176, 3) := by decide +kernel
theorem dX8_fails_51 : decode cX8_fails 51 = .ok (.iload_n 2, 1) := by decide +kernel
theorem dX8_fails_52 : decode cX8_fails 52 = .ok (.invokestatic 180, 3) := by decide +kernel
theorem dX8_fails_55 : decode cX8_fails 55 = .ok (.ifCond .eq 7, 3) := by decide +kernel
theorem dX8_fails_58 : decode cX8_fails 58 = .ok (.iconst 1, 1) := by decide +kernel
theorem dX8_fails_59 : decode cX8_fails 59 = .ok (.goto 4, 3) := by decide +kernel
theorem dX8_fails_62 : decode cX8_fails 62 = .ok (.iconst 0, 1) := by decide +kernel
theorem dX8_fails_63 : decode cX8_fails 63 = .ok (.ireturn, 1) := by decide +kernel
theorem dX8_move_0 : decode cX8_move 0 = .ok (.aload_n 0, 1) := by decide +kernel
theorem dX8_move_1 : decode cX8_move 1 = .ok (.getfield 14, 3) := by decide +kernel
theorem dX8_move_4 : decode cX8_move 4 = .ok (.getfield 67, 3) := by decide +kernel
theorem dX8_move_7 : decode cX8_move 7 = .ok (.astore_n 3, 1) := by decide +kernel
theorem dX8_move_8 : decode cX8_move 8 = .ok (.aload_n 3, 1) := by decide +kernel
theorem dX8_move_9 : decode cX8_move 9 = .ok (.iload_n 1, 1) := by decide +kernel
theorem dX8_move_10 : decode cX8_move 10 = .ok (.invokevirtual 94, 3) := by decide +kernel
theorem dX8_move_13 : decode cX8_move 13 = .ok (.ifCond .ne 5, 3) := by decide +kernel
theorem dX8_move_16 : decode cX8_move 16 = .ok (.iconst (-1), 1) := by decide +kernel
theorem dX8_move_17 : decode cX8_move 17 = .ok (.ireturn, 1) := by decide +kernel
theorem dX8_move_18 : decode cX8_move 18 = .ok (.aload_n 3, 1) := by decide +kernel
theorem dX8_move_19 : decode cX8_move 19 = .ok (.iload_n 2, 1) := by decide +kernel
theorem dX8_move_20 : decode cX8_move 20 = .ok (.invokevirtual 184, 3) := by decide +kernel
theorem dX8_move_23 : decode cX8_move 23 = .ok (.ifCond .ne 6, 3) := by decide +kernel
theorem dX8_move_26 : decode cX8_move 26 = .ok (.bipush (-2), 2) := by decide +kernel
theorem dX8_move_28 : decode cX8_move 28 = .ok (.ireturn, 1) := by decide +kernel
theorem dX8_move_29 : decode cX8_move 29 = .ok (.aload_n 3, 1) := by decide +kernel
theorem dX8_move_30 : decode cX8_move 30 = .ok (.iload_n 1, 1) := by decide +kernel
theorem dX8_move_31 : decode cX8_move 31 = .ok (.iload_n 2, 1) := by decide +kernel
theorem dX8_move_32 : decode cX8_move 32 = .ok (.invokevirtual 187, 3) := by decide +kernel
theorem dX8_move_35 : decode cX8_move 35 = .ok (.ireturn, 1) := by decide +kernel
theorem dX8_sift_0 : decode cX8_sift 0 = .ok (.aload_n 0, 1) := by decide +kernel
theorem dX8_sift_1 : decode cX8_sift 1 = .ok (.getfield 14, 3) := by decide +kernel
theorem dX8_sift_4 : decode cX8_sift 4 = .ok (.getfield 67, 3) := by decide +kernel
theorem dX8_sift_7 : decode cX8_sift 7 = .ok (.astore_n 2, 1) := by decide +kernel
theorem dX8_sift_8 : decode cX8_sift 8 = .ok (.aload_n 2, 1) := by decide +kernel
theorem dX8_sift_9 : decode cX8_sift 9 = .ok (.iload_n 1, 1) := by decide +kernel
theorem dX8_sift_10 : decode cX8_sift 10 = .ok (.invokevirtual 94, 3) := by decide +kernel
theorem dX8_sift_13 : decode cX8_sift 13 = .ok (.ifCond .ne 5, 3) := by decide +kernel
theorem dX8_sift_16 : decode cX8_sift 16 = .ok (.iconst (-1), 1) := by decide +kernel
theorem dX8_sift_17 : decode cX8_sift 17 = .ok (.ireturn, 1) := by decide +kernel
theorem dX8_sift_18 : decode cX8_sift 18 = .ok (.aload_n 2, 1) := by decide +kernel
theorem dX8_sift_19 : decode cX8_sift 19 = .ok (.getfield 190, 3) := by decide +kernel
theorem dX8_sift_22 : decode cX8_sift 22 = .ok (.ifCond .ne 6, 3) := by decide +kernel
theorem dX8_sift_25 : decode cX8_sift 25 = .ok (.bipush (-3), 2) := by decide +kernel
theorem dX8_sift_27 : decode cX8_sift 27 = .ok (.ireturn, 1) := by decide +kernel
theorem dX8_sift_28 : decode cX8_sift 28 = .ok (.aload_n 0, 1) := by decide +kernel
theorem dX8_sift_29 : decode cX8_sift 29 = .ok (.iload_n 1, 1) := by decide +kernel
theorem dX8_sift_30 : decode cX8_sift 30 = .ok (.invokevirtual 193, 3) := by decide +kernel
theorem dX8_sift_33 : decode cX8_sift 33 = .ok (.istore_n 3, 1) := by decide +kernel
theorem dX8_sift_34 : decode cX8_sift 34 = .ok (.aload_n 2, 1) := by decide +kernel
theorem dX8_sift_35 : decode cX8_sift 35 = .ok (.iload_n 1, 1) := by decide +kernel
theorem dX8_sift_36 : decode cX8_sift 36 = .ok (.iload_n 3, 1) := by decide +kernel
theorem dX8_sift_37 : decode cX8_sift 37 = .ok (.invokevirtual 187, 3) := by decide +kernel
theorem dX8_sift_40 : decode cX8_sift 40 = .ok (.pop, 1) := by decide +kernel
theorem dX8_sift_41 : decode cX8_sift 41 = .ok (.iload_n 3, 1) := by decide +kernel
theorem dX8_sift_42 : decode cX8_sift 42 = .ok (.ireturn, 1) := by decide +kernel
theorem dX8_sifted_0 : decode cX8_sifted 0 = .ok (.aload_n 0, 1) := by decide +kernel
theorem dX8_sifted_1 : decode cX8_sifted 1 = .ok (.getfield 24, 3) := by decide +kernel
theorem dX8_sifted_4 : decode cX8_sifted 4 = .ok (.aload_n 0, 1) := by decide +kernel
theorem dX8_sifted_5 : decode cX8_sifted 5 = .ok (.getfield 14, 3) := by decide +kernel
theorem dX8_sifted_8 : decode cX8_sifted 8 = .ok (.getfield 67, 3) := by decide +kernel
theorem dX8_sifted_11 : decode cX8_sifted 11 = .ok (.invokevirtual 196, 3) := by decide +kernel
theorem dX8_sifted_14 : decode cX8_sifted 14 = .ok (.aload_n 0, 1) := by decide +kernel
theorem dX8_sifted_15 : decode cX8_sifted 15 = .ok (.getfield 24, 3) := by decide +kernel
theorem dX8_sifted_18 : decode cX8_sifted 18 = .ok (.invokevirtual 200, 3) := by decide +kernel
theorem dX8_sifted_21 : decode cX8_sifted 21 = .ok (.lstore_n 2, 1) := by decide +kernel
theorem dX8_sifted_22 : decode cX8_sifted 22 = .ok (.iconst 0, 1) := by decide +kernel
theorem dX8_sifted_23 : decode cX8_sifted 23 = .ok (.istore 4, 2) := by decide +kernel
theorem dX8_sifted_25 : decode cX8_sifted 25 = .ok (.bipush 65, 2) := by decide +kernel
theorem dX8_sifted_27 : decode cX8_sifted 27 = .ok (.istore 5, 2) := by decide +kernel
theorem dX8_sifted_29 : decode cX8_sifted 29 = .ok (.iconst 0, 1) := by decide +kernel
theorem dX8_sifted_30 : decode cX8_sifted 30 = .ok (.istore 6, 2) := by decide +kernel
theorem dX8_sifted_32 : decode cX8_sifted 32 = .ok (.iload 6, 2) := by decide +kernel
theorem dX8_sifted_34 : decode cX8_sifted 34 = .ok (.aload_n 0, 1) := by decide +kernel
theorem dX8_sifted_35 : decode cX8_sifted 35 = .ok (.getfield 24, 3) := by decide +kernel
theorem dX8_sifted_38 : decode cX8_sifted 38 = .ok (.getfield 204, 3) := by decide +kernel
theorem dX8_sifted_41 : decode cX8_sifted 41 = .ok (.if_icmp .ge 49, 3) := by decide +kernel
theorem dX8_sifted_44 : decode cX8_sifted 44 = .ok (.aload_n 0, 1) := by decide +kernel
theorem dX8_sifted_45 : decode cX8_sifted 45 = .ok (.getfield 24, 3) := by decide +kernel
theorem dX8_sifted_48 : decode cX8_sifted 48 = .ok (.iload_n 1, 1) := by decide +kernel
theorem dX8_sifted_49 : decode cX8_sifted 49 = .ok (.iload 6, 2) := by decide +kernel
theorem dX8_sifted_51 : decode cX8_sifted 51 = .ok (.invokevirtual 187, 3) := by decide +kernel
theorem dX8_sifted_54 : decode cX8_sifted 54 = .ok (.pop, 1) := by decide +kernel
theorem dX8_sifted_55 : decode cX8_sifted 55 = .ok (.aload_n 0, 1) := by decide +kernel
theorem dX8_sifted_56 : decode cX8_sifted 56 = .ok (.getfield 31, 3) := by decide +kernel
theorem dX8_sifted_59 : decode cX8_sifted 59 = .ok (.aload_n 0, 1) := by decide +kernel
theorem dX8_sifted_60 : decode cX8_sifted 60 = .ok (.getfield 24, 3) := by decide +kernel
theorem dX8_sifted_63 : decode cX8_sifted 63 = .ok (.lload_n 2, 1) := by decide +kernel
theorem dX8_sifted_64 : decode cX8_sifted 64 = .ok (.invokevirtual 207, 3) := by decide +kernel
theorem dX8_sifted_67 : decode cX8_sifted 67 = .ok (.istore 7, 2) := by decide +kernel
theorem dX8_sifted_69 : decode cX8_sifted 69 = .ok (.iload 7, 2) := by decide +kernel
theorem dX8_sifted_71 : decode cX8_sifted 71 = .ok (.iload 5, 2) := by decide +kernel
theorem dX8_sifted_73 : decode cX8_sifted 73 = .ok (.if_icmp .ge 11, 3) := by decide +kernel
theorem dX8_sifted_76 : decode cX8_sifted 76 = .ok (.iload 7, 2) := by decide +kernel
theorem dX8_sifted_78 : decode cX8_sifted 78 = .ok (.istore 5, 2) := by decide +kernel
theorem dX8_sifted_80 : decode cX8_sifted 80 = .ok (.iload 6, 2) := by decide +kernel
theorem dX8_sifted_82 : decode cX8_sifted 82 = .ok (.istore 4, 2) := by decide +kernel
theorem dX8_sifted_84 : decode cX8_sifted 84 = .ok (.iinc 6 1, 3) := by decide +kernel
theorem dX8_sifted_87 : decode cX8_sifted 87 = .ok (.goto (-55), 3) := by decide +kernel
theorem dX8_sifted_90 : decode cX8_sifted 90 = .ok (.iload 4, 2) := by decide +kernel
theorem dX8_sifted_92 : decode cX8_sifted 92 = .ok (.ireturn, 1) := by decide +kernel
theorem dX8_at_0 : decode cX8_at 0 = .ok (.aload_n 0, 1) := by decide +kernel
theorem dX8_at_1 : decode cX8_at 1 = .ok (.getfield 14, 3) := by decide +kernel
theorem dX8_at_4 : decode cX8_at 4 = .ok (.getfield 67, 3) := by decide +kernel
theorem dX8_at_7 : decode cX8_at 7 = .ok (.iload_n 1, 1) := by decide +kernel
theorem dX8_at_8 : decode cX8_at 8 = .ok (.invokevirtual 184, 3) := by decide +kernel
theorem dX8_at_11 : decode cX8_at 11 = .ok (.ifCond .eq 18, 3) := by decide +kernel
theorem dX8_at_14 : decode cX8_at 14 = .ok (.aload_n 0, 1) := by decide +kernel
theorem dX8_at_15 : decode cX8_at 15 = .ok (.getfield 14, 3) := by decide +kernel
theorem dX8_at_18 : decode cX8_at 18 = .ok (.getfield 67, 3) := by decide +kernel
theorem dX8_at_21 : decode cX8_at 21 = .ok (.getfield 211, 3) := by decide +kernel
theorem dX8_at_24 : decode cX8_at 24 = .ok (.iload_n 1, 1) := by decide +kernel
theorem dX8_at_25 : decode cX8_at 25 = .ok (.iaload, 1) := by decide +kernel
theorem dX8_at_26 : decode cX8_at 26 = .ok (.goto 4, 3) := by decide +kernel
theorem dX8_at_29 : decode cX8_at 29 = .ok (.iconst (-1), 1) := by decide +kernel
theorem dX8_at_30 : decode cX8_at 30 = .ok (.ireturn, 1) := by decide +kernel
theorem dX8_node_0 : decode cX8_node 0 = .ok (.aload_n 0, 1) := by decide +kernel
theorem dX8_node_1 : decode cX8_node 1 = .ok (.getfield 14, 3) := by decide +kernel
theorem dX8_node_4 : decode cX8_node 4 = .ok (.getfield 67, 3) := by decide +kernel
theorem dX8_node_7 : decode cX8_node 7 = .ok (.getfield 190, 3) := by decide +kernel
theorem dX8_node_10 : decode cX8_node 10 = .ok (.ifCond .ne 6, 3) := by decide +kernel
theorem dX8_node_13 : decode cX8_node 13 = .ok (.bipush (-3), 2) := by decide +kernel
theorem dX8_node_15 : decode cX8_node 15 = .ok (.ireturn, 1) := by decide +kernel
theorem dX8_node_16 : decode cX8_node 16 = .ok (.aload_n 0, 1) := by decide +kernel
theorem dX8_node_17 : decode cX8_node 17 = .ok (.getfield 31, 3) := by decide +kernel
theorem dX8_node_20 : decode cX8_node 20 = .ok (.aload_n 0, 1) := by decide +kernel
theorem dX8_node_21 : decode cX8_node 21 = .ok (.getfield 14, 3) := by decide +kernel
theorem dX8_node_24 : decode cX8_node 24 = .ok (.getfield 67, 3) := by decide +kernel
theorem dX8_node_27 : decode cX8_node 27 = .ok (.aload_n 0, 1) := by decide +kernel
theorem dX8_node_28 : decode cX8_node 28 = .ok (.getfield 14, 3) := by decide +kernel
theorem dX8_node_31 : decode cX8_node 31 = .ok (.getfield 67, 3) := by decide +kernel
theorem dX8_node_34 : decode cX8_node 34 = .ok (.invokevirtual 200, 3) := by decide +kernel
theorem dX8_node_37 : decode cX8_node 37 = .ok (.invokevirtual 207, 3) := by decide +kernel
theorem dX8_node_40 : decode cX8_node 40 = .ok (.pop, 1) := by decide +kernel
theorem dX8_node_41 : decode cX8_node 41 = .ok (.aload_n 0, 1) := by decide +kernel
theorem dX8_node_42 : decode cX8_node 42 = .ok (.getfield 31, 3) := by decide +kernel
theorem dX8_node_45 : decode cX8_node 45 = .ok (.iload_n 1, 1) := by decide +kernel
theorem dX8_node_46 : decode cX8_node 46 = .ok (.iload_n 2, 1) := by decide +kernel
theorem dX8_node_47 : decode cX8_node 47 = .ok (.invokevirtual 214, 3) := by decide +kernel
theorem dX8_node_50 : decode cX8_node 50 = .ok (.ireturn, 1) := by decide +kernel
theorem dX8_told_0 : decode cX8_told 0 = .ok (.aload_n 0, 1) := by decide +kernel
theorem dX8_told_1 : decode cX8_told 1 = .ok (.getfield 14, 3) := by decide +kernel
theorem dX8_told_4 : decode cX8_told 4 = .ok (.getfield 67, 3) := by decide +kernel
theorem dX8_told_7 : decode cX8_told 7 = .ok (.astore_n 2, 1) := by decide +kernel
theorem dX8_told_8 : decode cX8_told 8 = .ok (.iload_n 1, 1) := by decide +kernel
theorem dX8_told_9 : decode cX8_told 9 = .ok (.ifCond .lt 9, 3) := by decide +kernel
theorem dX8_told_12 : decode cX8_told 12 = .ok (.iload_n 1, 1) := by decide +kernel
theorem dX8_told_13 : decode cX8_told 13 = .ok (.bipush 8, 2) := by decide +kernel
theorem dX8_told_15 : decode cX8_told 15 = .ok (.if_icmp .le 5, 3) := by decide +kernel
theorem dX8_told_18 : decode cX8_told 18 = .ok (.iconst (-1), 1) := by decide +kernel
theorem dX8_told_19 : decode cX8_told 19 = .ok (.ireturn, 1) := by decide +kernel
theorem dX8_told_20 : decode cX8_told 20 = .ok (.iload_n 1, 1) := by decide +kernel
theorem dX8_told_21 : decode cX8_told 21 = .ok (.tableswitch 51 0 3 #[31, 36, 41, 46], 31) := by decide +kernel
theorem dX8_told_52 : decode cX8_told 52 = .ok (.aload_n 2, 1) := by decide +kernel
theorem dX8_told_53 : decode cX8_told 53 = .ok (.getfield 204, 3) := by decide +kernel
theorem dX8_told_56 : decode cX8_told 56 = .ok (.ireturn, 1) := by decide +kernel
theorem dX8_told_57 : decode cX8_told 57 = .ok (.aload_n 2, 1) := by decide +kernel
theorem dX8_told_58 : decode cX8_told 58 = .ok (.getfield 190, 3) := by decide +kernel
theorem dX8_told_61 : decode cX8_told 61 = .ok (.ireturn, 1) := by decide +kernel
theorem dX8_told_62 : decode cX8_told 62 = .ok (.aload_n 2, 1) := by decide +kernel
end
section
theorem dX8_told_63 : decode cX8_told 63 = .ok (.getfield 217, 3) := by decide +kernel
theorem dX8_told_66 : decode cX8_told 66 = .ok (.ireturn, 1) := by decide +kernel
theorem dX8_told_67 : decode cX8_told 67 = .ok (.aload_n 2, 1) := by decide +kernel
theorem dX8_told_68 : decode cX8_told 68 = .ok (.invokevirtual 103, 3) := by decide +kernel
theorem dX8_told_71 : decode cX8_told 71 = .ok (.ireturn, 1) := by decide +kernel
theorem dX8_told_72 : decode cX8_told 72 = .ok (.aload_n 2, 1) := by decide +kernel
theorem dX8_told_73 : decode cX8_told 73 = .ok (.getfield 190, 3) := by decide +kernel
theorem dX8_told_76 : decode cX8_told 76 = .ok (.ifCond .ne 8, 3) := by decide +kernel
theorem dX8_told_79 : decode cX8_told 79 = .ok (.bipush (-3), 2) := by decide +kernel
theorem dX8_told_81 : decode cX8_told 81 = .ok (.goto 8, 3) := by decide +kernel
theorem dX8_told_84 : decode cX8_told 84 = .ok (.aload_n 0, 1) := by decide +kernel
theorem dX8_told_85 : decode cX8_told 85 = .ok (.iload_n 1, 1) := by decide +kernel
theorem dX8_told_86 : decode cX8_told 86 = .ok (.invokevirtual 220, 3) := by decide +kernel
theorem dX8_told_89 : decode cX8_told 89 = .ok (.ireturn, 1) := by decide +kernel
theorem dX8_toldOfTop_0 : decode cX8_toldOfTop 0 = .ok (.aload_n 0, 1) := by decide +kernel
theorem dX8_toldOfTop_1 : decode cX8_toldOfTop 1 = .ok (.getfield 14, 3) := by decide +kernel
theorem dX8_toldOfTop_4 : decode cX8_toldOfTop 4 = .ok (.getfield 67, 3) := by decide +kernel
theorem dX8_toldOfTop_7 : decode cX8_toldOfTop 7 = .ok (.astore_n 2, 1) := by decide +kernel
theorem dX8_toldOfTop_8 : decode cX8_toldOfTop 8 = .ok (.aload_n 2, 1) := by decide +kernel
theorem dX8_toldOfTop_9 : decode cX8_toldOfTop 9 = .ok (.invokevirtual 200, 3) := by decide +kernel
theorem dX8_toldOfTop_12 : decode cX8_toldOfTop 12 = .ok (.lstore_n 3, 1) := by decide +kernel
theorem dX8_toldOfTop_13 : decode cX8_toldOfTop 13 = .ok (.iload_n 1, 1) := by decide +kernel
theorem dX8_toldOfTop_14 : decode cX8_toldOfTop 14 = .ok (.tableswitch 76 4 7 #[30, 40, 53, 66], 30) := by decide +kernel
theorem dX8_toldOfTop_44 : decode cX8_toldOfTop 44 = .ok (.aload_n 0, 1) := by decide +kernel
theorem dX8_toldOfTop_45 : decode cX8_toldOfTop 45 = .ok (.getfield 31, 3) := by decide +kernel
theorem dX8_toldOfTop_48 : decode cX8_toldOfTop 48 = .ok (.aload_n 2, 1) := by decide +kernel
theorem dX8_toldOfTop_49 : decode cX8_toldOfTop 49 = .ok (.lload_n 3, 1) := by decide +kernel
theorem dX8_toldOfTop_50 : decode cX8_toldOfTop 50 = .ok (.invokevirtual 207, 3) := by decide +kernel
theorem dX8_toldOfTop_53 : decode cX8_toldOfTop 53 = .ok (.ireturn, 1) := by decide +kernel
theorem dX8_toldOfTop_54 : decode cX8_toldOfTop 54 = .ok (.aload_n 0, 1) := by decide +kernel
theorem dX8_toldOfTop_55 : decode cX8_toldOfTop 55 = .ok (.getfield 38, 3) := by decide +kernel
theorem dX8_toldOfTop_58 : decode cX8_toldOfTop 58 = .ok (.lload_n 3, 1) := by decide +kernel
theorem dX8_toldOfTop_59 : decode cX8_toldOfTop 59 = .ok (.aload_n 2, 1) := by decide +kernel
theorem dX8_toldOfTop_60 : decode cX8_toldOfTop 60 = .ok (.getfield 204, 3) := by decide +kernel
theorem dX8_toldOfTop_63 : decode cX8_toldOfTop 63 = .ok (.invokevirtual 223, 3) := by decide +kernel
theorem dX8_toldOfTop_66 : decode cX8_toldOfTop 66 = .ok (.ireturn, 1) := by decide +kernel
theorem dX8_toldOfTop_67 : decode cX8_toldOfTop 67 = .ok (.aload_n 0, 1) := by decide +kernel
theorem dX8_toldOfTop_68 : decode cX8_toldOfTop 68 = .ok (.getfield 38, 3) := by decide +kernel
theorem dX8_toldOfTop_71 : decode cX8_toldOfTop 71 = .ok (.lload_n 3, 1) := by decide +kernel
theorem dX8_toldOfTop_72 : decode cX8_toldOfTop 72 = .ok (.aload_n 2, 1) := by decide +kernel
theorem dX8_toldOfTop_73 : decode cX8_toldOfTop 73 = .ok (.getfield 204, 3) := by decide +kernel
theorem dX8_toldOfTop_76 : decode cX8_toldOfTop 76 = .ok (.invokevirtual 227, 3) := by decide +kernel
theorem dX8_toldOfTop_79 : decode cX8_toldOfTop 79 = .ok (.ireturn, 1) := by decide +kernel
theorem dX8_toldOfTop_80 : decode cX8_toldOfTop 80 = .ok (.aload_n 0, 1) := by decide +kernel
theorem dX8_toldOfTop_81 : decode cX8_toldOfTop 81 = .ok (.getfield 45, 3) := by decide +kernel
theorem dX8_toldOfTop_84 : decode cX8_toldOfTop 84 = .ok (.aload_n 2, 1) := by decide +kernel
theorem dX8_toldOfTop_85 : decode cX8_toldOfTop 85 = .ok (.lload_n 3, 1) := by decide +kernel
theorem dX8_toldOfTop_86 : decode cX8_toldOfTop 86 = .ok (.invokevirtual 230, 3) := by decide +kernel
theorem dX8_toldOfTop_89 : decode cX8_toldOfTop 89 = .ok (.ireturn, 1) := by decide +kernel
theorem dX8_toldOfTop_90 : decode cX8_toldOfTop 90 = .ok (.lload_n 3, 1) := by decide +kernel
theorem dX8_toldOfTop_91 : decode cX8_toldOfTop 91 = .ok (.invokestatic 233, 3) := by decide +kernel
theorem dX8_toldOfTop_94 : decode cX8_toldOfTop 94 = .ok (.ireturn, 1) := by decide +kernel
theorem dX8_sameness_0 : decode cX8_sameness 0 = .ok (.lload_n 0, 1) := by decide +kernel
theorem dX8_sameness_1 : decode cX8_sameness 1 = .ok (.ldc2_w 237, 3) := by decide +kernel
theorem dX8_sameness_4 : decode cX8_sameness 4 = .ok (.lcmp, 1) := by decide +kernel
theorem dX8_sameness_5 : decode cX8_sameness 5 = .ok (.ifCond .ne 5, 3) := by decide +kernel
theorem dX8_sameness_8 : decode cX8_sameness 8 = .ok (.iconst 1, 1) := by decide +kernel
theorem dX8_sameness_9 : decode cX8_sameness 9 = .ok (.ireturn, 1) := by decide +kernel
theorem dX8_sameness_10 : decode cX8_sameness 10 = .ok (.lload_n 0, 1) := by decide +kernel
theorem dX8_sameness_11 : decode cX8_sameness 11 = .ok (.lconst 0, 1) := by decide +kernel
theorem dX8_sameness_12 : decode cX8_sameness 12 = .ok (.lcmp, 1) := by decide +kernel
theorem dX8_sameness_13 : decode cX8_sameness 13 = .ok (.ifCond .ne 7, 3) := by decide +kernel
theorem dX8_sameness_16 : decode cX8_sameness 16 = .ok (.iconst (-1), 1) := by decide +kernel
theorem dX8_sameness_17 : decode cX8_sameness 17 = .ok (.goto 4, 3) := by decide +kernel
theorem dX8_sameness_20 : decode cX8_sameness 20 = .ok (.iconst 0, 1) := by decide +kernel
theorem dX8_sameness_21 : decode cX8_sameness 21 = .ok (.ireturn, 1) := by decide +kernel
theorem dX8_cut_0 : decode cX8_cut 0 = .ok (.aload_n 0, 1) := by decide +kernel
theorem dX8_cut_1 : decode cX8_cut 1 = .ok (.getfield 14, 3) := by decide +kernel
theorem dX8_cut_4 : decode cX8_cut 4 = .ok (.getfield 67, 3) := by decide +kernel
theorem dX8_cut_7 : decode cX8_cut 7 = .ok (.getfield 190, 3) := by decide +kernel
theorem dX8_cut_10 : decode cX8_cut 10 = .ok (.ifCond .ne 6, 3) := by decide +kernel
theorem dX8_cut_13 : decode cX8_cut 13 = .ok (.bipush (-3), 2) := by decide +kernel
theorem dX8_cut_15 : decode cX8_cut 15 = .ok (.ireturn, 1) := by decide +kernel
theorem dX8_cut_16 : decode cX8_cut 16 = .ok (.aload_n 0, 1) := by decide +kernel
theorem dX8_cut_17 : decode cX8_cut 17 = .ok (.invokevirtual 239, 3) := by decide +kernel
theorem dX8_cut_20 : decode cX8_cut 20 = .ok (.pop, 1) := by decide +kernel
theorem dX8_cut_21 : decode cX8_cut 21 = .ok (.aload_n 0, 1) := by decide +kernel
theorem dX8_cut_22 : decode cX8_cut 22 = .ok (.getfield 38, 3) := by decide +kernel
theorem dX8_cut_25 : decode cX8_cut 25 = .ok (.iload_n 1, 1) := by decide +kernel
theorem dX8_cut_26 : decode cX8_cut 26 = .ok (.invokevirtual 242, 3) := by decide +kernel
theorem dX8_cut_29 : decode cX8_cut 29 = .ok (.ireturn, 1) := by decide +kernel
theorem dX8_path_0 : decode cX8_path 0 = .ok (.aload_n 0, 1) := by decide +kernel
theorem dX8_path_1 : decode cX8_path 1 = .ok (.getfield 14, 3) := by decide +kernel
theorem dX8_path_4 : decode cX8_path 4 = .ok (.getfield 67, 3) := by decide +kernel
theorem dX8_path_7 : decode cX8_path 7 = .ok (.getfield 190, 3) := by decide +kernel
theorem dX8_path_10 : decode cX8_path 10 = .ok (.ifCond .ne 6, 3) := by decide +kernel
theorem dX8_path_13 : decode cX8_path 13 = .ok (.bipush (-3), 2) := by decide +kernel
theorem dX8_path_15 : decode cX8_path 15 = .ok (.ireturn, 1) := by decide +kernel
theorem dX8_path_16 : decode cX8_path 16 = .ok (.aload_n 0, 1) := by decide +kernel
theorem dX8_path_17 : decode cX8_path 17 = .ok (.getfield 38, 3) := by decide +kernel
theorem dX8_path_20 : decode cX8_path 20 = .ok (.aload_n 0, 1) := by decide +kernel
theorem dX8_path_21 : decode cX8_path 21 = .ok (.getfield 14, 3) := by decide +kernel
theorem dX8_path_24 : decode cX8_path 24 = .ok (.getfield 67, 3) := by decide +kernel
theorem dX8_path_27 : decode cX8_path 27 = .ok (.invokevirtual 200, 3) := by decide +kernel
theorem dX8_path_30 : decode cX8_path 30 = .ok (.aload_n 0, 1) := by decide +kernel
theorem dX8_path_31 : decode cX8_path 31 = .ok (.getfield 14, 3) := by decide +kernel
theorem dX8_path_34 : decode cX8_path 34 = .ok (.getfield 67, 3) := by decide +kernel
theorem dX8_path_37 : decode cX8_path 37 = .ok (.getfield 204, 3) := by decide +kernel
theorem dX8_path_40 : decode cX8_path 40 = .ok (.invokevirtual 227, 3) := by decide +kernel
theorem dX8_path_43 : decode cX8_path 43 = .ok (.pop, 1) := by decide +kernel
theorem dX8_path_44 : decode cX8_path 44 = .ok (.aload_n 0, 1) := by decide +kernel
theorem dX8_path_45 : decode cX8_path 45 = .ok (.getfield 38, 3) := by decide +kernel
theorem dX8_path_48 : decode cX8_path 48 = .ok (.iload_n 1, 1) := by decide +kernel
theorem dX8_path_49 : decode cX8_path 49 = .ok (.invokevirtual 242, 3) := by decide +kernel
theorem dX8_path_52 : decode cX8_path 52 = .ok (.ireturn, 1) := by decide +kernel
theorem dX8_listCutsNow_0 : decode cX8_listCutsNow 0 = .ok (.aload_n 0, 1) := by decide +kernel
theorem dX8_listCutsNow_1 : decode cX8_listCutsNow 1 = .ok (.getfield 38, 3) := by decide +kernel
theorem dX8_listCutsNow_4 : decode cX8_listCutsNow 4 = .ok (.aload_n 0, 1) := by decide +kernel
theorem dX8_listCutsNow_5 : decode cX8_listCutsNow 5 = .ok (.getfield 14, 3) := by decide +kernel
theorem dX8_listCutsNow_8 : decode cX8_listCutsNow 8 = .ok (.getfield 67, 3) := by decide +kernel
theorem dX8_listCutsNow_11 : decode cX8_listCutsNow 11 = .ok (.invokevirtual 200, 3) := by decide +kernel
theorem dX8_listCutsNow_14 : decode cX8_listCutsNow 14 = .ok (.aload_n 0, 1) := by decide +kernel
theorem dX8_listCutsNow_15 : decode cX8_listCutsNow 15 = .ok (.getfield 14, 3) := by decide +kernel
theorem dX8_listCutsNow_18 : decode cX8_listCutsNow 18 = .ok (.getfield 67, 3) := by decide +kernel
theorem dX8_listCutsNow_21 : decode cX8_listCutsNow 21 = .ok (.getfield 204, 3) := by decide +kernel
theorem dX8_listCutsNow_24 : decode cX8_listCutsNow 24 = .ok (.invokevirtual 223, 3) := by decide +kernel
theorem dX8_listCutsNow_27 : decode cX8_listCutsNow 27 = .ok (.ireturn, 1) := by decide +kernel
theorem dX8_chance_0 : decode cX8_chance 0 = .ok (.aload_n 0, 1) := by decide +kernel
theorem dX8_chance_1 : decode cX8_chance 1 = .ok (.getfield 14, 3) := by decide +kernel
theorem dX8_chance_4 : decode cX8_chance 4 = .ok (.getfield 67, 3) := by decide +kernel
theorem dX8_chance_7 : decode cX8_chance 7 = .ok (.astore_n 2, 1) := by decide +kernel
theorem dX8_chance_8 : decode cX8_chance 8 = .ok (.iload_n 1, 1) := by decide +kernel
theorem dX8_chance_9 : decode cX8_chance 9 = .ok (.invokestatic 245, 3) := by decide +kernel
theorem dX8_chance_12 : decode cX8_chance 12 = .ok (.ifCond .eq 10, 3) := by decide +kernel
theorem dX8_chance_15 : decode cX8_chance 15 = .ok (.aload_n 2, 1) := by decide +kernel
theorem dX8_chance_16 : decode cX8_chance 16 = .ok (.getfield 190, 3) := by decide +kernel
theorem dX8_chance_19 : decode cX8_chance 19 = .ok (.ifCond .ne 7, 3) := by decide +kernel
theorem dX8_chance_22 : decode cX8_chance 22 = .ok (.ldc2_w 248, 3) := by decide +kernel
theorem dX8_chance_25 : decode cX8_chance 25 = .ok (.lreturn, 1) := by decide +kernel
theorem dX8_chance_26 : decode cX8_chance 26 = .ok (.aload_n 0, 1) := by decide +kernel
theorem dX8_chance_27 : decode cX8_chance 27 = .ok (.getfield 45, 3) := by decide +kernel
theorem dX8_chance_30 : decode cX8_chance 30 = .ok (.aload_n 2, 1) := by decide +kernel
theorem dX8_chance_31 : decode cX8_chance 31 = .ok (.aload_n 2, 1) := by decide +kernel
theorem dX8_chance_32 : decode cX8_chance 32 = .ok (.invokevirtual 200, 3) := by decide +kernel
theorem dX8_chance_35 : decode cX8_chance 35 = .ok (.iconst (-1), 1) := by decide +kernel
theorem dX8_chance_36 : decode cX8_chance 36 = .ok (.iconst 0, 1) := by decide +kernel
theorem dX8_chance_37 : decode cX8_chance 37 = .ok (.invokevirtual 250, 3) := by decide +kernel
theorem dX8_chance_40 : decode cX8_chance 40 = .ok (.lstore_n 3, 1) := by decide +kernel
theorem dX8_chance_41 : decode cX8_chance 41 = .ok (.lload_n 3, 1) := by decide +kernel
theorem dX8_chance_42 : decode cX8_chance 42 = .ok (.aload_n 0, 1) := by decide +kernel
theorem dX8_chance_43 : decode cX8_chance 43 = .ok (.getfield 45, 3) := by decide +kernel
theorem dX8_chance_46 : decode cX8_chance 46 = .ok (.aload_n 2, 1) := by decide +kernel
theorem dX8_chance_47 : decode cX8_chance 47 = .ok (.invokevirtual 254, 3) := by decide +kernel
theorem dX8_chance_50 : decode cX8_chance 50 = .ok (.iload_n 1, 1) := by decide +kernel
theorem dX8_chance_51 : decode cX8_chance 51 = .ok (.invokestatic 258, 3) := by decide +kernel
theorem dX8_chance_54 : decode cX8_chance 54 = .ok (.lreturn, 1) := by decide +kernel
theorem dX8_given_0 : decode cX8_given 0 = .ok (.aload_n 0, 1) := by decide +kernel
theorem dX8_given_1 : decode cX8_given 1 = .ok (.getfield 14, 3) := by decide +kernel
theorem dX8_given_4 : decode cX8_given 4 = .ok (.getfield 67, 3) := by decide +kernel
theorem dX8_given_7 : decode cX8_given 7 = .ok (.astore 4, 2) := by decide +kernel
theorem dX8_given_9 : decode cX8_given 9 = .ok (.aload 4, 2) := by decide +kernel
theorem dX8_given_11 : decode cX8_given 11 = .ok (.iload_n 1, 1) := by decide +kernel
theorem dX8_given_12 : decode cX8_given 12 = .ok (.invokevirtual 117, 3) := by decide +kernel
theorem dX8_given_15 : decode cX8_given 15 = .ok (.ifCond .eq 18, 3) := by decide +kernel
theorem dX8_given_18 : decode cX8_given 18 = .ok (.iload_n 3, 1) := by decide +kernel
theorem dX8_given_19 : decode cX8_given 19 = .ok (.invokestatic 245, 3) := by decide +kernel
theorem dX8_given_22 : decode cX8_given 22 = .ok (.ifCond .eq 11, 3) := by decide +kernel
theorem dX8_given_25 : decode cX8_given 25 = .ok (.aload 4, 2) := by decide +kernel
theorem dX8_given_27 : decode cX8_given 27 = .ok (.getfield 190, 3) := by decide +kernel
theorem dX8_given_30 : decode cX8_given 30 = .ok (.ifCond .ne 7, 3) := by decide +kernel
theorem dX8_given_33 : decode cX8_given 33 = .ok (.ldc2_w 248, 3) := by decide +kernel
theorem dX8_given_36 : decode cX8_given 36 = .ok (.lreturn, 1) := by decide +kernel
theorem dX8_given_37 : decode cX8_given 37 = .ok (.iload_n 2, 1) := by decide +kernel
theorem dX8_given_38 : decode cX8_given 38 = .ok (.ifCond .eq 8, 3) := by decide +kernel
theorem dX8_given_41 : decode cX8_given 41 = .ok (.bipush 100, 2) := by decide +kernel
theorem dX8_given_43 : decode cX8_given 43 = .ok (.goto 4, 3) := by decide +kernel
theorem dX8_given_46 : decode cX8_given 46 = .ok (.iconst 0, 1) := by decide +kernel
theorem dX8_given_47 : decode cX8_given 47 = .ok (.istore 5, 2) := by decide +kernel
theorem dX8_given_49 : decode cX8_given 49 = .ok (.aload_n 0, 1) := by decide +kernel
theorem dX8_given_50 : decode cX8_given 50 = .ok (.getfield 45, 3) := by decide +kernel
theorem dX8_given_53 : decode cX8_given 53 = .ok (.aload 4, 2) := by decide +kernel
theorem dX8_given_55 : decode cX8_given 55 = .ok (.aload 4, 2) := by decide +kernel
theorem dX8_given_57 : decode cX8_given 57 = .ok (.invokevirtual 200, 3) := by decide +kernel
theorem dX8_given_60 : decode cX8_given 60 = .ok (.bipush 6, 2) := by decide +kernel
theorem dX8_given_62 : decode cX8_given 62 = .ok (.iload_n 1, 1) := by decide +kernel
theorem dX8_given_63 : decode cX8_given 63 = .ok (.iadd, 1) := by decide +kernel
theorem dX8_given_64 : decode cX8_given 64 = .ok (.iload 5, 2) := by decide +kernel
theorem dX8_given_66 : decode cX8_given 66 = .ok (.invokevirtual 250, 3) := by decide +kernel
theorem dX8_given_69 : decode cX8_given 69 = .ok (.lstore 6, 2) := by decide +kernel
theorem dX8_given_71 : decode cX8_given 71 = .ok (.lload 6, 2) := by decide +kernel
theorem dX8_given_73 : decode cX8_given 73 = .ok (.aload_n 0, 1) := by decide +kernel
theorem dX8_given_74 : decode cX8_given 74 = .ok (.getfield 45, 3) := by decide +kernel
theorem dX8_given_77 : decode cX8_given 77 = .ok (.aload 4, 2) := by decide +kernel
theorem dX8_given_79 : decode cX8_given 79 = .ok (.invokevirtual 254, 3) := by decide +kernel
theorem dX8_given_82 : decode cX8_given 82 = .ok (.iload_n 3, 1) := by decide +kernel
theorem dX8_given_83 : decode cX8_given 83 = .ok (.invokestatic 258, 3) := by decide +kernel
theorem dX8_given_86 : decode cX8_given 86 = .ok (.lreturn, 1) := by decide +kernel
theorem dX8_weight_0 : decode cX8_weight 0 = .ok (.aload_n 0, 1) := by decide +kernel
theorem dX8_weight_1 : decode cX8_weight 1 = .ok (.getfield 14, 3) := by decide +kernel
theorem dX8_weight_4 : decode cX8_weight 4 = .ok (.getfield 67, 3) := by decide +kernel
theorem dX8_weight_7 : decode cX8_weight 7 = .ok (.astore_n 3, 1) := by decide +kernel
theorem dX8_weight_8 : decode cX8_weight 8 = .ok (.aload_n 3, 1) := by decide +kernel
theorem dX8_weight_9 : decode cX8_weight 9 = .ok (.iload_n 1, 1) := by decide +kernel
theorem dX8_weight_10 : decode cX8_weight 10 = .ok (.invokevirtual 94, 3) := by decide +kernel
theorem dX8_weight_13 : decode cX8_weight 13 = .ok (.ifCond .eq 17, 3) := by decide +kernel
theorem dX8_weight_16 : decode cX8_weight 16 = .ok (.iload_n 2, 1) := by decide +kernel
theorem dX8_weight_17 : decode cX8_weight 17 = .ok (.invokestatic 245, 3) := by decide +kernel
theorem dX8_weight_20 : decode cX8_weight 20 = .ok (.ifCond .eq 10, 3) := by decide +kernel
theorem dX8_weight_23 : decode cX8_weight 23 = .ok (.aload_n 3, 1) := by decide +kernel
theorem dX8_weight_24 : decode cX8_weight 24 = .ok (.getfield 190, 3) := by decide +kernel
theorem dX8_weight_27 : decode cX8_weight 27 = .ok (.ifCond .ne 7, 3) := by decide +kernel
theorem dX8_weight_30 : decode cX8_weight 30 = .ok (.ldc2_w 248, 3) := by decide +kernel
theorem dX8_weight_33 : decode cX8_weight 33 = .ok (.lreturn, 1) := by decide +kernel
theorem dX8_weight_34 : decode cX8_weight 34 = .ok (.aload_n 0, 1) := by decide +kernel
theorem dX8_weight_35 : decode cX8_weight 35 = .ok (.getfield 45, 3) := by decide +kernel
theorem dX8_weight_38 : decode cX8_weight 38 = .ok (.aload_n 3, 1) := by decide +kernel
theorem dX8_weight_39 : decode cX8_weight 39 = .ok (.aload_n 3, 1) := by decide +kernel
theorem dX8_weight_40 : decode cX8_weight 40 = .ok (.invokevirtual 200, 3) := by decide +kernel
theorem dX8_weight_43 : decode cX8_weight 43 = .ok (.iload_n 1, 1) := by decide +kernel
theorem dX8_weight_44 : decode cX8_weight 44 = .ok (.invokevirtual 262, 3) := by decide +kernel
theorem dX8_weight_47 : decode cX8_weight 47 = .ok (.lstore 4, 2) := by decide +kernel
theorem dX8_weight_49 : decode cX8_weight 49 = .ok (.lload 4, 2) := by decide +kernel
theorem dX8_weight_51 : decode cX8_weight 51 = .ok (.aload_n 0, 1) := by decide +kernel
theorem dX8_weight_52 : decode cX8_weight 52 = .ok (.getfield 45, 3) := by decide +kernel
theorem dX8_weight_55 : decode cX8_weight 55 = .ok (.aload_n 3, 1) := by decide +kernel
theorem dX8_weight_56 : decode cX8_weight 56 = .ok (.invokevirtual 254, 3) := by decide +kernel
theorem dX8_weight_59 : decode cX8_weight 59 = .ok (.iload_n 2, 1) := by decide +kernel
theorem dX8_weight_60 : decode cX8_weight 60 = .ok (.invokestatic 258, 3) := by decide +kernel
theorem dX8_weight_63 : decode cX8_weight 63 = .ok (.lreturn, 1) := by decide +kernel
theorem dX8_see_0 : decode cX8_see 0 = .ok (.iload_n 1, 1) := by decide +kernel
theorem dX8_see_1 : decode cX8_see 1 = .ok (.iconst (-1), 1) := by decide +kernel
theorem dX8_see_2 : decode cX8_see 2 = .ok (.if_icmp .ne 14, 3) := by decide +kernel
theorem dX8_see_5 : decode cX8_see 5 = .ok (.aload_n 0, 1) := by decide +kernel
theorem dX8_see_6 : decode cX8_see 6 = .ok (.getfield 14, 3) := by decide +kernel
theorem dX8_see_9 : decode cX8_see 9 = .ok (.getfield 266, 3) := by decide +kernel
theorem dX8_see_12 : decode cX8_see 12 = .ok (.invokevirtual 270, 3) := by decide +kernel
theorem dX8_see_15 : decode cX8_see 15 = .ok (.ireturn, 1) := by decide +kernel
theorem dX8_see_16 : decode cX8_see 16 = .ok (.aload_n 0, 1) := by decide +kernel
theorem dX8_see_17 : decode cX8_see 17 = .ok (.getfield 14, 3) := by decide +kernel
theorem dX8_see_20 : decode cX8_see 20 = .ok (.getfield 67, 3) := by decide +kernel
theorem dX8_see_23 : decode cX8_see 23 = .ok (.iload_n 1, 1) := by decide +kernel
theorem dX8_see_24 : decode cX8_see 24 = .ok (.invokevirtual 111, 3) := by decide +kernel
theorem dX8_see_27 : decode cX8_see 27 = .ok (.ifCond .ne 6, 3) := by decide +kernel
theorem dX8_see_30 : decode cX8_see 30 = .ok (.bipush (-2), 2) := by decide +kernel
theorem dX8_see_32 : decode cX8_see 32 = .ok (.ireturn, 1) := by decide +kernel
theorem dX8_see_33 : decode cX8_see 33 = .ok (.aload_n 0, 1) := by decide +kernel
theorem dX8_see_34 : decode cX8_see 34 = .ok (.getfield 14, 3) := by decide +kernel
theorem dX8_see_37 : decode cX8_see 37 = .ok (.getfield 266, 3) := by decide +kernel
theorem dX8_see_40 : decode cX8_see 40 = .ok (.iload_n 1, 1) := by decide +kernel
theorem dX8_see_41 : decode cX8_see 41 = .ok (.iload_n 2, 1) := by decide +kernel
theorem dX8_see_42 : decode cX8_see 42 = .ok (.ifCond .eq 7, 3) := by decide +kernel
theorem dX8_see_45 : decode cX8_see 45 = .ok (.iconst 1, 1) := by decide +kernel
theorem dX8_see_46 : decode cX8_see 46 = .ok (.goto 4, 3) := by decide +kernel
theorem dX8_see_49 : decode cX8_see 49 = .ok (.iconst 0, 1) := by decide +kernel
theorem dX8_see_50 : decode cX8_see 50 = .ok (.invokevirtual 275, 3) := by decide +kernel
theorem dX8_see_53 : decode cX8_see 53 = .ok (.ireturn, 1) := by decide +kernel
theorem dX8_fits_0 : decode cX8_fits 0 = .ok (.aload_n 0, 1) := by decide +kernel
theorem dX8_fits_1 : decode cX8_fits 1 = .ok (.getfield 14, 3) := by decide +kernel
theorem dX8_fits_4 : decode cX8_fits 4 = .ok (.getfield 67, 3) := by decide +kernel
theorem dX8_fits_7 : decode cX8_fits 7 = .ok (.iload_n 1, 1) := by decide +kernel
theorem dX8_fits_8 : decode cX8_fits 8 = .ok (.invokevirtual 84, 3) := by decide +kernel
theorem dX8_fits_11 : decode cX8_fits 11 = .ok (.ifCond .eq 12, 3) := by decide +kernel
theorem dX8_fits_14 : decode cX8_fits 14 = .ok (.iload_n 2, 1) := by decide +kernel
theorem dX8_fits_15 : decode cX8_fits 15 = .ok (.ifCond .lt 8, 3) := by decide +kernel
theorem dX8_fits_18 : decode cX8_fits 18 = .ok (.iload_n 2, 1) := by decide +kernel
theorem dX8_fits_19 : decode cX8_fits 19 = .ok (.iconst 1, 1) := by decide +kernel
theorem dX8_fits_20 : decode cX8_fits 20 = .ok (.if_icmp .le 5, 3) := by decide +kernel
theorem dX8_fits_23 : decode cX8_fits 23 = .ok (.iconst (-1), 1) := by decide +kernel
theorem dX8_fits_24 : decode cX8_fits 24 = .ok (.ireturn, 1) := by decide +kernel
theorem dX8_fits_25 : decode cX8_fits 25 = .ok (.iconst 0, 1) := by decide +kernel
theorem dX8_fits_26 : decode cX8_fits 26 = .ok (.istore_n 3, 1) := by decide +kernel
theorem dX8_fits_27 : decode cX8_fits 27 = .ok (.bipush (-5), 2) := by decide +kernel
theorem dX8_fits_29 : decode cX8_fits 29 = .ok (.istore 4, 2) := by decide +kernel
theorem dX8_fits_31 : decode cX8_fits 31 = .ok (.aload_n 0, 1) := by decide +kernel
theorem dX8_fits_32 : decode cX8_fits 32 = .ok (.getfield 24, 3) := by decide +kernel
theorem dX8_fits_35 : decode cX8_fits 35 = .ok (.aload_n 0, 1) := by decide +kernel
theorem dX8_fits_36 : decode cX8_fits 36 = .ok (.getfield 14, 3) := by decide +kernel
theorem dX8_fits_39 : decode cX8_fits 39 = .ok (.getfield 67, 3) := by decide +kernel
theorem dX8_fits_42 : decode cX8_fits 42 = .ok (.invokevirtual 196, 3) := by decide +kernel
theorem dX8_fits_45 : decode cX8_fits 45 = .ok (.aload_n 0, 1) := by decide +kernel
theorem dX8_fits_46 : decode cX8_fits 46 = .ok (.getfield 24, 3) := by decide +kernel
theorem dX8_fits_49 : decode cX8_fits 49 = .ok (.getfield 87, 3) := by decide +kernel
theorem dX8_fits_52 : decode cX8_fits 52 = .ok (.iload_n 1, 1) := by decide +kernel
theorem dX8_fits_53 : decode cX8_fits 53 = .ok (.iconst 2, 1) := by decide +kernel
theorem dX8_fits_54 : decode cX8_fits 54 = .ok (.iastore, 1) := by decide +kernel
theorem dX8_fits_55 : decode cX8_fits 55 = .ok (.iconst 5, 1) := by decide +kernel
theorem dX8_fits_56 : decode cX8_fits 56 = .ok (.istore 5, 2) := by decide +kernel
theorem dX8_fits_58 : decode cX8_fits 58 = .ok (.iload 5, 2) := by decide +kernel
theorem dX8_fits_60 : decode cX8_fits 60 = .ok (.ifCond .lt 41, 3) := by decide +kernel
theorem dX8_fits_63 : decode cX8_fits 63 = .ok (.aload_n 0, 1) := by decide +kernel
theorem dX8_fits_64 : decode cX8_fits 64 = .ok (.getfield 24, 3) := by decide +kernel
theorem dX8_fits_67 : decode cX8_fits 67 = .ok (.getfield 91, 3) := by decide +kernel
theorem dX8_fits_70 : decode cX8_fits 70 = .ok (.iload_n 1, 1) := by decide +kernel
theorem dX8_fits_71 : decode cX8_fits 71 = .ok (.iload 5, 2) := by decide +kernel
theorem dX8_fits_73 : decode cX8_fits 73 = .ok (.iastore, 1) := by decide +kernel
theorem dX8_fits_74 : decode cX8_fits 74 = .ok (.aload_n 0, 1) := by decide +kernel
theorem dX8_fits_75 : decode cX8_fits 75 = .ok (.aload_n 0, 1) := by decide +kernel
theorem dX8_fits_76 : decode cX8_fits 76 = .ok (.getfield 24, 3) := by decide +kernel
theorem dX8_fits_79 : decode cX8_fits 79 = .ok (.invokevirtual 200, 3) := by decide +kernel
theorem dX8_fits_82 : decode cX8_fits 82 = .ok (.invokevirtual 278, 3) := by decide +kernel
theorem dX8_fits_85 : decode cX8_fits 85 = .ok (.ifCond .eq 10, 3) := by decide +kernel
theorem dX8_fits_88 : decode cX8_fits 88 = .ok (.iinc 3 1, 3) := by decide +kernel
theorem dX8_fits_91 : decode cX8_fits 91 = .ok (.iload 5, 2) := by decide +kernel
theorem dX8_fits_93 : decode cX8_fits 93 = .ok (.istore 4, 2) := by decide +kernel
theorem dX8_fits_95 : decode cX8_fits 95 = .ok (.iinc 5 (-1), 3) := by decide +kernel
theorem dX8_fits_98 : decode cX8_fits 98 = .ok (.goto (-40), 3) := by decide +kernel
theorem dX8_fits_101 : decode cX8_fits 101 = .ok (.iload_n 2, 1) := by decide +kernel
theorem dX8_fits_102 : decode cX8_fits 102 = .ok (.ifCond .ne 7, 3) := by decide +kernel
theorem dX8_fits_105 : decode cX8_fits 105 = .ok (.iload_n 3, 1) := by decide +kernel
theorem dX8_fits_106 : decode cX8_fits 106 = .ok (.goto 5, 3) := by decide +kernel
theorem dX8_fits_109 : decode cX8_fits 109 = .ok (.iload 4, 2) := by decide +kernel
theorem dX8_fits_111 : decode cX8_fits 111 = .ok (.ireturn, 1) := by decide +kernel
theorem dX8_isAsSeen_0 : decode cX8_isAsSeen 0 = .ok (.aload_n 0, 1) := by decide +kernel
theorem dX8_isAsSeen_1 : decode cX8_isAsSeen 1 = .ok (.getfield 14, 3) := by decide +kernel
theorem dX8_isAsSeen_4 : decode cX8_isAsSeen 4 = .ok (.getfield 266, 3) := by decide +kernel
theorem dX8_isAsSeen_7 : decode cX8_isAsSeen 7 = .ok (.astore_n 3, 1) := by decide +kernel
theorem dX8_isAsSeen_8 : decode cX8_isAsSeen 8 = .ok (.iconst 0, 1) := by decide +kernel
theorem dX8_isAsSeen_9 : decode cX8_isAsSeen 9 = .ok (.istore 4, 2) := by decide +kernel
theorem dX8_isAsSeen_11 : decode cX8_isAsSeen 11 = .ok (.iload 4, 2) := by decide +kernel
theorem dX8_isAsSeen_13 : decode cX8_isAsSeen 13 = .ok (.aload_n 3, 1) := by decide +kernel
theorem dX8_isAsSeen_14 : decode cX8_isAsSeen 14 = .ok (.getfield 282, 3) := by decide +kernel
theorem dX8_isAsSeen_17 : decode cX8_isAsSeen 17 = .ok (.if_icmp .ge 41, 3) := by decide +kernel
theorem dX8_isAsSeen_20 : decode cX8_isAsSeen 20 = .ok (.lload_n 1, 1) := by decide +kernel
theorem dX8_isAsSeen_21 : decode cX8_isAsSeen 21 = .ok (.aload_n 3, 1) := by decide +kernel
theorem dX8_isAsSeen_22 : decode cX8_isAsSeen 22 = .ok (.getfield 283, 3) := by decide +kernel
theorem dX8_isAsSeen_25 : decode cX8_isAsSeen 25 = .ok (.iload 4, 2) := by decide +kernel
theorem dX8_isAsSeen_27 : decode cX8_isAsSeen 27 = .ok (.iaload, 1) := by decide +kernel
theorem dX8_isAsSeen_28 : decode cX8_isAsSeen 28 = .ok (.invokestatic 180, 3) := by decide +kernel
theorem dX8_isAsSeen_31 : decode cX8_isAsSeen 31 = .ok (.aload_n 3, 1) := by decide +kernel
theorem dX8_isAsSeen_32 : decode cX8_isAsSeen 32 = .ok (.getfield 284, 3) := by decide +kernel
theorem dX8_isAsSeen_35 : decode cX8_isAsSeen 35 = .ok (.iload 4, 2) := by decide +kernel
theorem dX8_isAsSeen_37 : decode cX8_isAsSeen 37 = .ok (.iaload, 1) := by decide +kernel
theorem dX8_isAsSeen_38 : decode cX8_isAsSeen 38 = .ok (.iconst 1, 1) := by decide +kernel
theorem dX8_isAsSeen_39 : decode cX8_isAsSeen 39 = .ok (.if_icmp .ne 7, 3) := by decide +kernel
theorem dX8_isAsSeen_42 : decode cX8_isAsSeen 42 = .ok (.iconst 1, 1) := by decide +kernel
theorem dX8_isAsSeen_43 : decode cX8_isAsSeen 43 = .ok (.goto 4, 3) := by decide +kernel
theorem dX8_isAsSeen_46 : decode cX8_isAsSeen 46 = .ok (.iconst 0, 1) := by decide +kernel
theorem dX8_isAsSeen_47 : decode cX8_isAsSeen 47 = .ok (.if_icmp .eq 5, 3) := by decide +kernel
theorem dX8_isAsSeen_50 : decode cX8_isAsSeen 50 = .ok (.iconst 0, 1) := by decide +kernel
theorem dX8_isAsSeen_51 : decode cX8_isAsSeen 51 = .ok (.ireturn, 1) := by decide +kernel
theorem dX8_isAsSeen_52 : decode cX8_isAsSeen 52 = .ok (.iinc 4 1, 3) := by decide +kernel
theorem dX8_isAsSeen_55 : decode cX8_isAsSeen 55 = .ok (.goto (-44), 3) := by decide +kernel
theorem dX8_isAsSeen_58 : decode cX8_isAsSeen 58 = .ok (.iconst 1, 1) := by decide +kernel
theorem dX8_isAsSeen_59 : decode cX8_isAsSeen 59 = .ok (.ireturn, 1) := by decide +kernel
theorem dX8_mean_0 : decode cX8_mean 0 = .ok (.iload_n 1, 1) := by decide +kernel
theorem dX8_mean_1 : decode cX8_mean 1 = .ok (.invokestatic 245, 3) := by decide +kernel
theorem dX8_mean_4 : decode cX8_mean 4 = .ok (.ifCond .eq 16, 3) := by decide +kernel
theorem dX8_mean_7 : decode cX8_mean 7 = .ok (.aload_n 0, 1) := by decide +kernel
theorem dX8_mean_8 : decode cX8_mean 8 = .ok (.getfield 14, 3) := by decide +kernel
theorem dX8_mean_11 : decode cX8_mean 11 = .ok (.getfield 67, 3) := by decide +kernel
theorem dX8_mean_14 : decode cX8_mean 14 = .ok (.getfield 190, 3) := by decide +kernel
theorem dX8_mean_17 : decode cX8_mean 17 = .ok (.ifCond .ne 7, 3) := by decide +kernel
theorem dX8_mean_20 : decode cX8_mean 20 = .ok (.ldc2_w 248, 3) := by decide +kernel
theorem dX8_mean_23 : decode cX8_mean 23 = .ok (.lreturn, 1) := by decide +kernel
theorem dX8_mean_24 : decode cX8_mean 24 = .ok (.aload_n 0, 1) := by decide +kernel
theorem dX8_mean_25 : decode cX8_mean 25 = .ok (.invokevirtual 239, 3) := by decide +kernel
theorem dX8_mean_28 : decode cX8_mean 28 = .ok (.istore_n 2, 1) := by decide +kernel
theorem dX8_mean_29 : decode cX8_mean 29 = .ok (.iload_n 2, 1) := by decide +kernel
theorem dX8_mean_30 : decode cX8_mean 30 = .ok (.ifCond .ne 7, 3) := by decide +kernel
theorem dX8_mean_33 : decode cX8_mean 33 = .ok (.ldc2_w 248, 3) := by decide +kernel
theorem dX8_mean_36 : decode cX8_mean 36 = .ok (.lreturn, 1) := by decide +kernel
theorem dX8_mean_37 : decode cX8_mean 37 = .ok (.aload_n 0, 1) := by decide +kernel
theorem dX8_mean_38 : decode cX8_mean 38 = .ok (.getfield 38, 3) := by decide +kernel
theorem dX8_mean_41 : decode cX8_mean 41 = .ok (.invokevirtual 285, 3) := by decide +kernel
theorem dX8_mean_44 : decode cX8_mean 44 = .ok (.i2l, 1) := by decide +kernel
theorem dX8_mean_45 : decode cX8_mean 45 = .ok (.iload_n 2, 1) := by decide +kernel
theorem dX8_mean_46 : decode cX8_mean 46 = .ok (.i2l, 1) := by decide +kernel
theorem dX8_mean_47 : decode cX8_mean 47 = .ok (.iload_n 1, 1) := by decide +kernel
theorem dX8_mean_48 : decode cX8_mean 48 = .ok (.invokestatic 258, 3) := by decide +kernel
theorem dX8_mean_51 : decode cX8_mean 51 = .ok (.lreturn, 1) := by decide +kernel
theorem dX8_event_0 : decode cX8_event 0 = .ok (.iload_n 1, 1) := by decide +kernel
theorem dX8_event_1 : decode cX8_event 1 = .ok (.iconst (-1), 1) := by decide +kernel
theorem dX8_event_2 : decode cX8_event 2 = .ok (.if_icmp .ne 14, 3) := by decide +kernel
theorem dX8_event_5 : decode cX8_event 5 = .ok (.aload_n 0, 1) := by decide +kernel
theorem dX8_event_6 : decode cX8_event 6 = .ok (.getfield 14, 3) := by decide +kernel
theorem dX8_event_9 : decode cX8_event 9 = .ok (.getfield 288, 3) := by decide +kernel
theorem dX8_event_12 : decode cX8_event 12 = .ok (.invokevirtual 270, 3) := by decide +kernel
theorem dX8_event_15 : decode cX8_event 15 = .ok (.ireturn, 1) := by decide +kernel
theorem dX8_event_16 : decode cX8_event 16 = .ok (.iload_n 1, 1) := by decide +kernel
theorem dX8_event_17 : decode cX8_event 17 = .ok (.ifCond .eq 8, 3) := by decide +kernel
theorem dX8_event_20 : decode cX8_event 20 = .ok (.iload_n 1, 1) := by decide +kernel
theorem dX8_event_21 : decode cX8_event 21 = .ok (.iconst 1, 1) := by decide +kernel
theorem dX8_event_22 : decode cX8_event 22 = .ok (.if_icmp .ne 21, 3) := by decide +kernel
theorem dX8_event_25 : decode cX8_event 25 = .ok (.aload_n 0, 1) := by decide +kernel
theorem dX8_event_26 : decode cX8_event 26 = .ok (.getfield 14, 3) := by decide +kernel
theorem dX8_event_29 : decode cX8_event 29 = .ok (.getfield 67, 3) := by decide +kernel
theorem dX8_event_32 : decode cX8_event 32 = .ok (.iload_n 2, 1) := by decide +kernel
theorem dX8_event_33 : decode cX8_event 33 = .ok (.invokevirtual 94, 3) := by decide +kernel
theorem dX8_event_36 : decode cX8_event 36 = .ok (.ifCond .eq 7, 3) := by decide +kernel
theorem dX8_event_39 : decode cX8_event 39 = .ok (.iconst 1, 1) := by decide +kernel
theorem dX8_event_40 : decode cX8_event 40 = .ok (.goto 4, 3) := by decide +kernel
theorem dX8_event_43 : decode cX8_event 43 = .ok (.iconst 0, 1) := by decide +kernel
theorem dX8_event_44 : decode cX8_event 44 = .ok (.istore_n 3, 1) := by decide +kernel
theorem dX8_event_45 : decode cX8_event 45 = .ok (.iload_n 1, 1) := by decide +kernel
theorem dX8_event_46 : decode cX8_event 46 = .ok (.iconst 2, 1) := by decide +kernel
theorem dX8_event_47 : decode cX8_event 47 = .ok (.if_icmp .eq 8, 3) := by decide +kernel
theorem dX8_event_50 : decode cX8_event 50 = .ok (.iload_n 1, 1) := by decide +kernel
theorem dX8_event_51 : decode cX8_event 51 = .ok (.iconst 3, 1) := by decide +kernel
theorem dX8_event_52 : decode cX8_event 52 = .ok (.if_icmp .ne 21, 3) := by decide +kernel
theorem dX8_event_55 : decode cX8_event 55 = .ok (.aload_n 0, 1) := by decide +kernel
theorem dX8_event_56 : decode cX8_event 56 = .ok (.getfield 14, 3) := by decide +kernel
theorem dX8_event_59 : decode cX8_event 59 = .ok (.getfield 67, 3) := by decide +kernel
theorem dX8_event_62 : decode cX8_event 62 = .ok (.iload_n 2, 1) := by decide +kernel
theorem dX8_event_63 : decode cX8_event 63 = .ok (.invokevirtual 84, 3) := by decide +kernel
theorem dX8_event_66 : decode cX8_event 66 = .ok (.ifCond .eq 7, 3) := by decide +kernel
theorem dX8_event_69 : decode cX8_event 69 = .ok (.iconst 1, 1) := by decide +kernel
theorem dX8_event_70 : decode cX8_event 70 = .ok (.goto 4, 3) := by decide +kernel
theorem dX8_event_73 : decode cX8_event 73 = .ok (.iconst 0, 1) := by decide +kernel
theorem dX8_event_74 : decode cX8_event 74 = .ok (.istore 4, 2) := by decide +kernel
theorem dX8_event_76 : decode cX8_event 76 = .ok (.iload_n 3, 1) := by decide +kernel
theorem dX8_event_77 : decode cX8_event 77 = .ok (.ifCond .ne 10, 3) := by decide +kernel
theorem dX8_event_80 : decode cX8_event 80 = .ok (.iload 4, 2) := by decide +kernel
theorem dX8_event_82 : decode cX8_event 82 = .ok (.ifCond .ne 5, 3) := by decide +kernel
theorem dX8_event_85 : decode cX8_event 85 = .ok (.iconst (-1), 1) := by decide +kernel
theorem dX8_event_86 : decode cX8_event 86 = .ok (.ireturn, 1) := by decide +kernel
theorem dX8_event_87 : decode cX8_event 87 = .ok (.aload_n 0, 1) := by decide +kernel
theorem dX8_event_88 : decode cX8_event 88 = .ok (.getfield 14, 3) := by decide +kernel
theorem dX8_event_91 : decode cX8_event 91 = .ok (.getfield 288, 3) := by decide +kernel
theorem dX8_event_94 : decode cX8_event 94 = .ok (.iload_n 1, 1) := by decide +kernel
theorem dX8_event_95 : decode cX8_event 95 = .ok (.iload_n 2, 1) := by decide +kernel
theorem dX8_event_96 : decode cX8_event 96 = .ok (.invokevirtual 275, 3) := by decide +kernel
theorem dX8_event_99 : decode cX8_event 99 = .ok (.ireturn, 1) := by decide +kernel
theorem dX8_after_0 : decode cX8_after 0 = .ok (.iload_n 1, 1) := by decide +kernel
theorem dX8_after_1 : decode cX8_after 1 = .ok (.ifCond .lt 8, 3) := by decide +kernel
theorem dX8_after_4 : decode cX8_after 4 = .ok (.iload_n 1, 1) := by decide +kernel
theorem dX8_after_5 : decode cX8_after 5 = .ok (.iconst 3, 1) := by decide +kernel
theorem dX8_after_6 : decode cX8_after 6 = .ok (.if_icmp .le 5, 3) := by decide +kernel
theorem dX8_after_9 : decode cX8_after 9 = .ok (.iconst (-1), 1) := by decide +kernel
theorem dX8_after_10 : decode cX8_after 10 = .ok (.ireturn, 1) := by decide +kernel
theorem dX8_after_11 : decode cX8_after 11 = .ok (.aload_n 0, 1) := by decide +kernel
theorem dX8_after_12 : decode cX8_after 12 = .ok (.getfield 14, 3) := by decide +kernel
theorem dX8_after_15 : decode cX8_after 15 = .ok (.getfield 67, 3) := by decide +kernel
theorem dX8_after_18 : decode cX8_after 18 = .ok (.getfield 190, 3) := by decide +kernel
theorem dX8_after_21 : decode cX8_after 21 = .ok (.ifCond .ne 6, 3) := by decide +kernel
theorem dX8_after_24 : decode cX8_after 24 = .ok (.bipush (-3), 2) := by decide +kernel
theorem dX8_after_26 : decode cX8_after 26 = .ok (.ireturn, 1) := by decide +kernel
theorem dX8_after_27 : decode cX8_after 27 = .ok (.aload_n 0, 1) := by decide +kernel
theorem dX8_after_28 : decode cX8_after 28 = .ok (.getfield 24, 3) := by decide +kernel
theorem dX8_after_31 : decode cX8_after 31 = .ok (.aload_n 0, 1) := by decide +kernel
theorem dX8_after_32 : decode cX8_after 32 = .ok (.getfield 14, 3) := by decide +kernel
theorem dX8_after_35 : decode cX8_after 35 = .ok (.getfield 67, 3) := by decide +kernel
theorem dX8_after_38 : decode cX8_after 38 = .ok (.invokevirtual 196, 3) := by decide +kernel
theorem dX8_after_41 : decode cX8_after 41 = .ok (.iconst 0, 1) := by decide +kernel
theorem dX8_after_42 : decode cX8_after 42 = .ok (.istore_n 2, 1) := by decide +kernel
theorem dX8_after_43 : decode cX8_after 43 = .ok (.iload_n 2, 1) := by decide +kernel
theorem dX8_after_44 : decode cX8_after 44 = .ok (.aload_n 0, 1) := by decide +kernel
theorem dX8_after_45 : decode cX8_after 45 = .ok (.getfield 14, 3) := by decide +kernel
theorem dX8_after_48 : decode cX8_after 48 = .ok (.getfield 288, 3) := by decide +kernel
theorem dX8_after_51 : decode cX8_after 51 = .ok (.getfield 282, 3) := by decide +kernel
theorem dX8_after_54 : decode cX8_after 54 = .ok (.if_icmp .ge 40, 3) := by decide +kernel
theorem dX8_after_57 : decode cX8_after 57 = .ok (.aload_n 0, 1) := by decide +kernel
theorem dX8_after_58 : decode cX8_after 58 = .ok (.getfield 24, 3) := by decide +kernel
theorem dX8_after_61 : decode cX8_after 61 = .ok (.aload_n 0, 1) := by decide +kernel
theorem dX8_after_62 : decode cX8_after 62 = .ok (.getfield 14, 3) := by decide +kernel
theorem dX8_after_65 : decode cX8_after 65 = .ok (.getfield 288, 3) := by decide +kernel
theorem dX8_after_68 : decode cX8_after 68 = .ok (.getfield 283, 3) := by decide +kernel
theorem dX8_after_71 : decode cX8_after 71 = .ok (.iload_n 2, 1) := by decide +kernel
theorem dX8_after_72 : decode cX8_after 72 = .ok (.iaload, 1) := by decide +kernel
theorem dX8_after_73 : decode cX8_after 73 = .ok (.aload_n 0, 1) := by decide +kernel
theorem dX8_after_74 : decode cX8_after 74 = .ok (.getfield 14, 3) := by decide +kernel
theorem dX8_after_77 : decode cX8_after 77 = .ok (.getfield 288, 3) := by decide +kernel
theorem dX8_after_80 : decode cX8_after 80 = .ok (.getfield 284, 3) := by decide +kernel
theorem dX8_after_83 : decode cX8_after 83 = .ok (.iload_n 2, 1) := by decide +kernel
theorem dX8_after_84 : decode cX8_after 84 = .ok (.iaload, 1) := by decide +kernel
theorem dX8_after_85 : decode cX8_after 85 = .ok (.invokevirtual 291, 3) := by decide +kernel
theorem dX8_after_88 : decode cX8_after 88 = .ok (.iinc 2 1, 3) := by decide +kernel
theorem dX8_after_91 : decode cX8_after 91 = .ok (.goto (-48), 3) := by decide +kernel
theorem dX8_after_94 : decode cX8_after 94 = .ok (.aload_n 0, 1) := by decide +kernel
theorem dX8_after_95 : decode cX8_after 95 = .ok (.getfield 24, 3) := by decide +kernel
theorem dX8_after_98 : decode cX8_after 98 = .ok (.invokevirtual 200, 3) := by decide +kernel
theorem dX8_after_101 : decode cX8_after 101 = .ok (.lstore_n 2, 1) := by decide +kernel
theorem dX8_after_102 : decode cX8_after 102 = .ok (.iload_n 1, 1) := by decide +kernel
theorem dX8_after_103 : decode cX8_after 103 = .ok (.tableswitch 68 0 2 #[25, 41, 54], 25) := by decide +kernel
theorem dX8_after_128 : decode cX8_after 128 = .ok (.aload_n 0, 1) := by decide +kernel
theorem dX8_after_129 : decode cX8_after 129 = .ok (.getfield 38, 3) := by decide +kernel
theorem dX8_after_132 : decode cX8_after 132 = .ok (.lload_n 2, 1) := by decide +kernel
theorem dX8_after_133 : decode cX8_after 133 = .ok (.aload_n 0, 1) := by decide +kernel
theorem dX8_after_134 : decode cX8_after 134 = .ok (.getfield 24, 3) := by decide +kernel
theorem dX8_after_137 : decode cX8_after 137 = .ok (.getfield 204, 3) := by decide +kernel
theorem dX8_after_140 : decode cX8_after 140 = .ok (.invokevirtual 223, 3) := by decide +kernel
theorem dX8_after_143 : decode cX8_after 143 = .ok (.ireturn, 1) := by decide +kernel
theorem dX8_after_144 : decode cX8_after 144 = .ok (.aload_n 0, 1) := by decide +kernel
theorem dX8_after_145 : decode cX8_after 145 = .ok (.getfield 31, 3) := by decide +kernel
theorem dX8_after_148 : decode cX8_after 148 = .ok (.aload_n 0, 1) := by decide +kernel
theorem dX8_after_149 : decode cX8_after 149 = .ok (.getfield 24, 3) := by decide +kernel
theorem dX8_after_152 : decode cX8_after 152 = .ok (.lload_n 2, 1) := by decide +kernel
theorem dX8_after_153 : decode cX8_after 153 = .ok (.invokevirtual 207, 3) := by decide +kernel
theorem dX8_after_156 : decode cX8_after 156 = .ok (.ireturn, 1) := by decide +kernel
theorem dX8_after_157 : decode cX8_after 157 = .ok (.lload_n 2, 1) := by decide +kernel
theorem dX8_after_158 : decode cX8_after 158 = .ok (.iconst 0, 1) := by decide +kernel
theorem dX8_after_159 : decode cX8_after 159 = .ok (.invokestatic 180, 3) := by decide +kernel
theorem dX8_after_162 : decode cX8_after 162 = .ok (.ifCond .eq 7, 3) := by decide +kernel
theorem dX8_after_165 : decode cX8_after 165 = .ok (.iconst 1, 1) := by decide +kernel
theorem dX8_after_166 : decode cX8_after 166 = .ok (.goto 4, 3) := by decide +kernel
theorem dX8_after_169 : decode cX8_after 169 = .ok (.iconst 0, 1) := by decide +kernel
theorem dX8_after_170 : decode cX8_after 170 = .ok (.ireturn, 1) := by decide +kernel
theorem dX8_after_171 : decode cX8_after 171 = .ok (.aload_n 0, 1) := by decide +kernel
theorem dX8_after_172 : decode cX8_after 172 = .ok (.getfield 45, 3) := by decide +kernel
theorem dX8_after_175 : decode cX8_after 175 = .ok (.aload_n 0, 1) := by decide +kernel
theorem dX8_after_176 : decode cX8_after 176 = .ok (.getfield 24, 3) := by decide +kernel
theorem dX8_after_179 : decode cX8_after 179 = .ok (.lload_n 2, 1) := by decide +kernel
theorem dX8_after_180 : decode cX8_after 180 = .ok (.invokevirtual 230, 3) := by decide +kernel
theorem dX8_after_183 : decode cX8_after 183 = .ok (.ireturn, 1) := by decide +kernel
theorem dX8_book_0 : decode cX8_book 0 = .ok (.iload_n 1, 1) := by decide +kernel
theorem dX8_book_1 : decode cX8_book 1 = .ok (.iconst (-1), 1) := by decide +kernel
theorem dX8_book_2 : decode cX8_book 2 = .ok (.if_icmp .ne 14, 3) := by decide +kernel
theorem dX8_book_5 : decode cX8_book 5 = .ok (.aload_n 0, 1) := by decide +kernel
theorem dX8_book_6 : decode cX8_book 6 = .ok (.getfield 14, 3) := by decide +kernel
theorem dX8_book_9 : decode cX8_book 9 = .ok (.getfield 295, 3) := by decide +kernel
theorem dX8_book_12 : decode cX8_book 12 = .ok (.invokevirtual 270, 3) := by decide +kernel
theorem dX8_book_15 : decode cX8_book 15 = .ok (.ireturn, 1) := by decide +kernel
theorem dX8_book_16 : decode cX8_book 16 = .ok (.aload_n 0, 1) := by decide +kernel
theorem dX8_book_17 : decode cX8_book 17 = .ok (.getfield 14, 3) := by decide +kernel
theorem dX8_book_20 : decode cX8_book 20 = .ok (.getfield 67, 3) := by decide +kernel
theorem dX8_book_23 : decode cX8_book 23 = .ok (.iload_n 1, 1) := by decide +kernel
theorem dX8_book_24 : decode cX8_book 24 = .ok (.invokevirtual 111, 3) := by decide +kernel
theorem dX8_book_27 : decode cX8_book 27 = .ok (.ifCond .ne 6, 3) := by decide +kernel
theorem dX8_book_30 : decode cX8_book 30 = .ok (.bipush (-2), 2) := by decide +kernel
theorem dX8_book_32 : decode cX8_book 32 = .ok (.ireturn, 1) := by decide +kernel
theorem dX8_book_33 : decode cX8_book 33 = .ok (.aload_n 0, 1) := by decide +kernel
theorem dX8_book_34 : decode cX8_book 34 = .ok (.getfield 14, 3) := by decide +kernel
theorem dX8_book_37 : decode cX8_book 37 = .ok (.getfield 295, 3) := by decide +kernel
theorem dX8_book_40 : decode cX8_book 40 = .ok (.iload_n 1, 1) := by decide +kernel
theorem dX8_book_41 : decode cX8_book 41 = .ok (.iconst 0, 1) := by decide +kernel
theorem dX8_book_42 : decode cX8_book 42 = .ok (.invokevirtual 275, 3) := by decide +kernel
theorem dX8_book_45 : decode cX8_book 45 = .ok (.ireturn, 1) := by decide +kernel
theorem dX8_looked_0 : decode cX8_looked 0 = .ok (.aload_n 0, 1) := by decide +kernel
theorem dX8_looked_1 : decode cX8_looked 1 = .ok (.getfield 14, 3) := by decide +kernel
theorem dX8_looked_4 : decode cX8_looked 4 = .ok (.getfield 67, 3) := by decide +kernel
theorem dX8_looked_7 : decode cX8_looked 7 = .ok (.getfield 190, 3) := by decide +kernel
theorem dX8_looked_10 : decode cX8_looked 10 = .ok (.ifCond .ne 6, 3) := by decide +kernel
theorem dX8_looked_13 : decode cX8_looked 13 = .ok (.bipush (-3), 2) := by decide +kernel
theorem dX8_looked_15 : decode cX8_looked 15 = .ok (.ireturn, 1) := by decide +kernel
theorem dX8_looked_16 : decode cX8_looked 16 = .ok (.aload_n 0, 1) := by decide +kernel
theorem dX8_looked_17 : decode cX8_looked 17 = .ok (.invokevirtual 239, 3) := by decide +kernel
theorem dX8_looked_20 : decode cX8_looked 20 = .ok (.pop, 1) := by decide +kernel
theorem dX8_looked_21 : decode cX8_looked 21 = .ok (.iconst 0, 1) := by decide +kernel
theorem dX8_looked_22 : decode cX8_looked 22 = .ok (.istore_n 1, 1) := by decide +kernel
theorem dX8_looked_23 : decode cX8_looked 23 = .ok (.iload_n 1, 1) := by decide +kernel
theorem dX8_looked_24 : decode cX8_looked 24 = .ok (.aload_n 0, 1) := by decide +kernel
theorem dX8_looked_25 : decode cX8_looked 25 = .ok (.getfield 14, 3) := by decide +kernel
theorem dX8_looked_28 : decode cX8_looked 28 = .ok (.getfield 295, 3) := by decide +kernel
theorem dX8_looked_31 : decode cX8_looked 31 = .ok (.getfield 282, 3) := by decide +kernel
theorem dX8_looked_34 : decode cX8_looked 34 = .ok (.if_icmp .ge 33, 3) := by decide +kernel
theorem dX8_looked_37 : decode cX8_looked 37 = .ok (.aload_n 0, 1) := by decide +kernel
theorem dX8_looked_38 : decode cX8_looked 38 = .ok (.getfield 38, 3) := by decide +kernel
theorem dX8_looked_41 : decode cX8_looked 41 = .ok (.aload_n 0, 1) := by decide +kernel
theorem dX8_looked_42 : decode cX8_looked 42 = .ok (.getfield 14, 3) := by decide +kernel
theorem dX8_looked_45 : decode cX8_looked 45 = .ok (.getfield 295, 3) := by decide +kernel
theorem dX8_looked_48 : decode cX8_looked 48 = .ok (.getfield 283, 3) := by decide +kernel
theorem dX8_looked_51 : decode cX8_looked 51 = .ok (.iload_n 1, 1) := by decide +kernel
theorem dX8_looked_52 : decode cX8_looked 52 = .ok (.iaload, 1) := by decide +kernel
theorem dX8_looked_53 : decode cX8_looked 53 = .ok (.invokevirtual 298, 3) := by decide +kernel
theorem dX8_looked_56 : decode cX8_looked 56 = .ok (.ifCond .ne 5, 3) := by decide +kernel
theorem dX8_looked_59 : decode cX8_looked 59 = .ok (.iload_n 1, 1) := by decide +kernel
theorem dX8_looked_60 : decode cX8_looked 60 = .ok (.ireturn, 1) := by decide +kernel
theorem dX8_looked_61 : decode cX8_looked 61 = .ok (.iinc 1 1, 3) := by decide +kernel
theorem dX8_looked_64 : decode cX8_looked 64 = .ok (.goto (-41), 3) := by decide +kernel
theorem dX8_looked_67 : decode cX8_looked 67 = .ok (.bipush (-5), 2) := by decide +kernel
theorem dX8_looked_69 : decode cX8_looked 69 = .ok (.ireturn, 1) := by decide +kernel
theorem dX8_judge_0 : decode cX8_judge 0 = .ok (.aload_n 0, 1) := by decide +kernel
theorem dX8_judge_1 : decode cX8_judge 1 = .ok (.iload_n 1, 1) := by decide +kernel
theorem dX8_judge_2 : decode cX8_judge 2 = .ok (.invokevirtual 301, 3) := by decide +kernel
theorem dX8_judge_5 : decode cX8_judge 5 = .ok (.astore_n 3, 1) := by decide +kernel
theorem dX8_judge_6 : decode cX8_judge 6 = .ok (.aload_n 3, 1) := by decide +kernel
theorem dX8_judge_7 : decode cX8_judge 7 = .ok (.ifnonnull 5, 3) := by decide +kernel
theorem dX8_judge_10 : decode cX8_judge 10 = .ok (.iconst (-1), 1) := by decide +kernel
theorem dX8_judge_11 : decode cX8_judge 11 = .ok (.ireturn, 1) := by decide +kernel
theorem dX8_judge_12 : decode cX8_judge 12 = .ok (.aload_n 0, 1) := by decide +kernel
theorem dX8_judge_13 : decode cX8_judge 13 = .ok (.getfield 14, 3) := by decide +kernel
theorem dX8_judge_16 : decode cX8_judge 16 = .ok (.getfield 67, 3) := by decide +kernel
theorem dX8_judge_19 : decode cX8_judge 19 = .ok (.getfield 190, 3) := by decide +kernel
theorem dX8_judge_22 : decode cX8_judge 22 = .ok (.ifCond .ne 6, 3) := by decide +kernel
theorem dX8_judge_25 : decode cX8_judge 25 = .ok (.bipush (-3), 2) := by decide +kernel
theorem dX8_judge_27 : decode cX8_judge 27 = .ok (.ireturn, 1) := by decide +kernel
theorem dX8_judge_28 : decode cX8_judge 28 = .ok (.aload_n 3, 1) := by decide +kernel
theorem dX8_judge_29 : decode cX8_judge 29 = .ok (.getfield 305, 3) := by decide +kernel
theorem dX8_judge_32 : decode cX8_judge 32 = .ok (.iconst (-1), 1) := by decide +kernel
theorem dX8_judge_33 : decode cX8_judge 33 = .ok (.if_icmp .eq 13, 3) := by decide +kernel
theorem dX8_judge_36 : decode cX8_judge 36 = .ok (.aload_n 3, 1) := by decide +kernel
theorem dX8_judge_37 : decode cX8_judge 37 = .ok (.getfield 305, 3) := by decide +kernel
theorem dX8_judge_40 : decode cX8_judge 40 = .ok (.ifCond .eq 6, 3) := by decide +kernel
theorem dX8_judge_43 : decode cX8_judge 43 = .ok (.bipush (-12), 2) := by decide +kernel
theorem dX8_judge_45 : decode cX8_judge 45 = .ok (.ireturn, 1) := by decide +kernel
theorem dX8_judge_46 : decode cX8_judge 46 = .ok (.aload_n 0, 1) := by decide +kernel
theorem dX8_judge_47 : decode cX8_judge 47 = .ok (.invokevirtual 239, 3) := by decide +kernel
theorem dX8_judge_50 : decode cX8_judge 50 = .ok (.pop, 1) := by decide +kernel
theorem dX8_judge_51 : decode cX8_judge 51 = .ok (.iconst 0, 1) := by decide +kernel
theorem dX8_judge_52 : decode cX8_judge 52 = .ok (.istore 4, 2) := by decide +kernel
theorem dX8_judge_54 : decode cX8_judge 54 = .ok (.iload 4, 2) := by decide +kernel
theorem dX8_judge_56 : decode cX8_judge 56 = .ok (.aload_n 0, 1) := by decide +kernel
theorem dX8_judge_57 : decode cX8_judge 57 = .ok (.getfield 38, 3) := by decide +kernel
theorem dX8_judge_60 : decode cX8_judge 60 = .ok (.getfield 308, 3) := by decide +kernel
theorem dX8_judge_63 : decode cX8_judge 63 = .ok (.if_icmp .ge 57, 3) := by decide +kernel
theorem dX8_judge_66 : decode cX8_judge 66 = .ok (.iload_n 2, 1) := by decide +kernel
theorem dX8_judge_67 : decode cX8_judge 67 = .ok (.ifCond .lt 14, 3) := by decide +kernel
theorem dX8_judge_70 : decode cX8_judge 70 = .ok (.iload_n 2, 1) := by decide +kernel
theorem dX8_judge_71 : decode cX8_judge 71 = .ok (.aload_n 3, 1) := by decide +kernel
theorem dX8_judge_72 : decode cX8_judge 72 = .ok (.getfield 309, 3) := by decide +kernel
theorem dX8_judge_75 : decode cX8_judge 75 = .ok (.iload 4, 2) := by decide +kernel
theorem dX8_judge_77 : decode cX8_judge 77 = .ok (.isub, 1) := by decide +kernel
theorem dX8_judge_78 : decode cX8_judge 78 = .ok (.if_icmp .lt 9, 3) := by decide +kernel
theorem dX8_judge_81 : decode cX8_judge 81 = .ok (.bipush 100, 2) := by decide +kernel
theorem dX8_judge_83 : decode cX8_judge 83 = .ok (.iload 4, 2) := by decide +kernel
theorem dX8_judge_85 : decode cX8_judge 85 = .ok (.iadd, 1) := by decide +kernel
theorem dX8_judge_86 : decode cX8_judge 86 = .ok (.ireturn, 1) := by decide +kernel
theorem dX8_judge_87 : decode cX8_judge 87 = .ok (.aload_n 3, 1) := by decide +kernel
theorem dX8_judge_88 : decode cX8_judge 88 = .ok (.getfield 312, 3) := by decide +kernel
theorem dX8_judge_91 : decode cX8_judge 91 = .ok (.iload_n 2, 1) := by decide +kernel
theorem dX8_judge_92 : decode cX8_judge 92 = .ok (.iload 4, 2) := by decide +kernel
theorem dX8_judge_94 : decode cX8_judge 94 = .ok (.iadd, 1) := by decide +kernel
theorem dX8_judge_95 : decode cX8_judge 95 = .ok (.laload, 1) := by decide +kernel
theorem dX8_judge_96 : decode cX8_judge 96 = .ok (.aload_n 0, 1) := by decide +kernel
theorem dX8_judge_97 : decode cX8_judge 97 = .ok (.getfield 38, 3) := by decide +kernel
theorem dX8_judge_100 : decode cX8_judge 100 = .ok (.getfield 316, 3) := by decide +kernel
theorem dX8_judge_103 : decode cX8_judge 103 = .ok (.iload 4, 2) := by decide +kernel
theorem dX8_judge_105 : decode cX8_judge 105 = .ok (.iaload, 1) := by decide +kernel
theorem dX8_judge_106 : decode cX8_judge 106 = .ok (.i2l, 1) := by decide +kernel
theorem dX8_judge_107 : decode cX8_judge 107 = .ok (.lcmp, 1) := by decide +kernel
theorem dX8_judge_108 : decode cX8_judge 108 = .ok (.ifCond .eq 6, 3) := by decide +kernel
theorem dX8_judge_111 : decode cX8_judge 111 = .ok (.iload 4, 2) := by decide +kernel
theorem dX8_judge_113 : decode cX8_judge 113 = .ok (.ireturn, 1) := by decide +kernel
theorem dX8_judge_114 : decode cX8_judge 114 = .ok (.iinc 4 1, 3) := by decide +kernel
theorem dX8_judge_117 : decode cX8_judge 117 = .ok (.goto (-63), 3) := by decide +kernel
theorem dX8_judge_120 : decode cX8_judge 120 = .ok (.bipush (-5), 2) := by decide +kernel
theorem dX8_judge_122 : decode cX8_judge 122 = .ok (.ireturn, 1) := by decide +kernel
theorem dX8_image_0 : decode cX8_image 0 = .ok (.aload_n 0, 1) := by decide +kernel
theorem dX8_image_1 : decode cX8_image 1 = .ok (.getfield 18, 3) := by decide +kernel
theorem dX8_image_4 : decode cX8_image 4 = .ok (.aload_n 0, 1) := by decide +kernel
theorem dX8_image_5 : decode cX8_image 5 = .ok (.getfield 14, 3) := by decide +kernel
theorem dX8_image_8 : decode cX8_image 8 = .ok (.invokevirtual 319, 3) := by decide +kernel
theorem dX8_image_11 : decode cX8_image 11 = .ok (.aload_n 0, 1) := by decide +kernel
theorem dX8_image_12 : decode cX8_image 12 = .ok (.iconst 1, 1) := by decide +kernel
theorem dX8_image_13 : decode cX8_image 13 = .ok (.putfield 322, 3) := by decide +kernel
theorem dX8_image_16 : decode cX8_image 16 = .ok (.aload_n 0, 1) := by decide +kernel
theorem dX8_image_17 : decode cX8_image 17 = .ok (.getfield 14, 3) := by decide +kernel
theorem dX8_image_20 : decode cX8_image 20 = .ok (.getfield 67, 3) := by decide +kernel
theorem dX8_image_23 : decode cX8_image 23 = .ok (.getfield 190, 3) := by decide +kernel
theorem dX8_image_26 : decode cX8_image 26 = .ok (.ireturn, 1) := by decide +kernel
theorem dX8_undo_0 : decode cX8_undo 0 = .ok (.aload_n 0, 1) := by decide +kernel
theorem dX8_undo_1 : decode cX8_undo 1 = .ok (.getfield 322, 3) := by decide +kernel
theorem dX8_undo_4 : decode cX8_undo 4 = .ok (.ifCond .ne 6, 3) := by decide +kernel
theorem dX8_undo_7 : decode cX8_undo 7 = .ok (.bipush (-3), 2) := by decide +kernel
theorem dX8_undo_9 : decode cX8_undo 9 = .ok (.ireturn, 1) := by decide +kernel
theorem dX8_undo_10 : decode cX8_undo 10 = .ok (.aload_n 0, 1) := by decide +kernel
theorem dX8_undo_11 : decode cX8_undo 11 = .ok (.getfield 14, 3) := by decide +kernel
theorem dX8_undo_14 : decode cX8_undo 14 = .ok (.aload_n 0, 1) := by decide +kernel
theorem dX8_undo_15 : decode cX8_undo 15 = .ok (.getfield 18, 3) := by decide +kernel
theorem dX8_undo_18 : decode cX8_undo 18 = .ok (.invokevirtual 319, 3) := by decide +kernel
theorem dX8_undo_21 : decode cX8_undo 21 = .ok (.aload_n 0, 1) := by decide +kernel
theorem dX8_undo_22 : decode cX8_undo 22 = .ok (.getfield 14, 3) := by decide +kernel
theorem dX8_undo_25 : decode cX8_undo 25 = .ok (.getfield 67, 3) := by decide +kernel
theorem dX8_undo_28 : decode cX8_undo 28 = .ok (.getfield 190, 3) := by decide +kernel
theorem dX8_undo_31 : decode cX8_undo 31 = .ok (.ireturn, 1) := by decide +kernel
theorem dX8_count_0 : decode cX8_count 0 = .ok (.iload_n 1, 1) := by decide +kernel
theorem dX8_count_1 : decode cX8_count 1 = .ok (.tableswitch 72 0 3 #[31, 42, 53, 64], 31) := by decide +kernel
theorem dX8_count_32 : decode cX8_count 32 = .ok (.aload_n 0, 1) := by decide +kernel
theorem dX8_count_33 : decode cX8_count 33 = .ok (.getfield 14, 3) := by decide +kernel
theorem dX8_count_36 : decode cX8_count 36 = .ok (.getfield 266, 3) := by decide +kernel
theorem dX8_count_39 : decode cX8_count 39 = .ok (.getfield 282, 3) := by decide +kernel
theorem dX8_count_42 : decode cX8_count 42 = .ok (.ireturn, 1) := by decide +kernel
theorem dX8_count_43 : decode cX8_count 43 = .ok (.aload_n 0, 1) := by decide +kernel
theorem dX8_count_44 : decode cX8_count 44 = .ok (.getfield 14, 3) := by decide +kernel
theorem dX8_count_47 : decode cX8_count 47 = .ok (.getfield 288, 3) := by decide +kernel
theorem dX8_count_50 : decode cX8_count 50 = .ok (.getfield 282, 3) := by decide +kernel
theorem dX8_count_53 : decode cX8_count 53 = .ok (.ireturn, 1) := by decide +kernel
theorem dX8_count_54 : decode cX8_count 54 = .ok (.aload_n 0, 1) := by decide +kernel
theorem dX8_count_55 : decode cX8_count 55 = .ok (.getfield 14, 3) := by decide +kernel
theorem dX8_count_58 : decode cX8_count 58 = .ok (.getfield 295, 3) := by decide +kernel
theorem dX8_count_61 : decode cX8_count 61 = .ok (.getfield 282, 3) := by decide +kernel
theorem dX8_count_64 : decode cX8_count 64 = .ok (.ireturn, 1) := by decide +kernel
theorem dX8_count_65 : decode cX8_count 65 = .ok (.aload_n 0, 1) := by decide +kernel
theorem dX8_count_66 : decode cX8_count 66 = .ok (.getfield 52, 3) := by decide +kernel
theorem dX8_count_69 : decode cX8_count 69 = .ok (.getfield 142, 3) := by decide +kernel
theorem dX8_count_72 : decode cX8_count 72 = .ok (.ireturn, 1) := by decide +kernel
theorem dX8_count_73 : decode cX8_count 73 = .ok (.bipush (-2), 2) := by decide +kernel
theorem dX8_count_75 : decode cX8_count 75 = .ok (.ireturn, 1) := by decide +kernel
theorem dX8_tape_0 : decode cX8_tape 0 = .ok (.aload_n 0, 1) := by decide +kernel
theorem dX8_tape_1 : decode cX8_tape 1 = .ok (.iload_n 1, 1) := by decide +kernel
theorem dX8_tape_2 : decode cX8_tape 2 = .ok (.invokevirtual 301, 3) := by decide +kernel
theorem dX8_tape_5 : decode cX8_tape 5 = .ok (.astore 4, 2) := by decide +kernel
theorem dX8_tape_7 : decode cX8_tape 7 = .ok (.aload 4, 2) := by decide +kernel
theorem dX8_tape_9 : decode cX8_tape 9 = .ok (.ifnonnull 5, 3) := by decide +kernel
theorem dX8_tape_12 : decode cX8_tape 12 = .ok (.iconst (-1), 1) := by decide +kernel
theorem dX8_tape_13 : decode cX8_tape 13 = .ok (.ireturn, 1) := by decide +kernel
theorem dX8_tape_14 : decode cX8_tape 14 = .ok (.iload_n 2, 1) := by decide +kernel
theorem dX8_tape_15 : decode cX8_tape 15 = .ok (.iconst (-1), 1) := by decide +kernel
theorem dX8_tape_16 : decode cX8_tape 16 = .ok (.if_icmp .ne 12, 3) := by decide +kernel
theorem dX8_tape_19 : decode cX8_tape 19 = .ok (.aload 4, 2) := by decide +kernel
theorem dX8_tape_21 : decode cX8_tape 21 = .ok (.iconst (-1), 1) := by decide +kernel
theorem dX8_tape_22 : decode cX8_tape 22 = .ok (.iconst 0, 1) := by decide +kernel
theorem dX8_tape_23 : decode cX8_tape 23 = .ok (.invokevirtual 326, 3) := by decide +kernel
theorem dX8_tape_26 : decode cX8_tape 26 = .ok (.iconst 1, 1) := by decide +kernel
theorem dX8_tape_27 : decode cX8_tape 27 = .ok (.ireturn, 1) := by decide +kernel
theorem dX8_tape_28 : decode cX8_tape 28 = .ok (.iload_n 2, 1) := by decide +kernel
theorem dX8_tape_29 : decode cX8_tape 29 = .ok (.ifCond .lt 14, 3) := by decide +kernel
theorem dX8_tape_32 : decode cX8_tape 32 = .ok (.iload_n 2, 1) := by decide +kernel
theorem dX8_tape_33 : decode cX8_tape 33 = .ok (.iconst 4, 1) := by decide +kernel
theorem dX8_tape_34 : decode cX8_tape 34 = .ok (.if_icmp .gt 9, 3) := by decide +kernel
theorem dX8_tape_37 : decode cX8_tape 37 = .ok (.iload_n 3, 1) := by decide +kernel
theorem dX8_tape_38 : decode cX8_tape 38 = .ok (.bipush 60, 2) := by decide +kernel
theorem dX8_tape_40 : decode cX8_tape 40 = .ok (.if_icmp .le 6, 3) := by decide +kernel
theorem dX8_tape_43 : decode cX8_tape 43 = .ok (.bipush (-2), 2) := by decide +kernel
theorem dX8_tape_45 : decode cX8_tape 45 = .ok (.ireturn, 1) := by decide +kernel
theorem dX8_tape_46 : decode cX8_tape 46 = .ok (.iload_n 3, 1) := by decide +kernel
theorem dX8_tape_47 : decode cX8_tape 47 = .ok (.ifCond .ge 6, 3) := by decide +kernel
theorem dX8_tape_50 : decode cX8_tape 50 = .ok (.bipush (-14), 2) := by decide +kernel
theorem dX8_tape_52 : decode cX8_tape 52 = .ok (.ireturn, 1) := by decide +kernel
theorem dX8_tape_53 : decode cX8_tape 53 = .ok (.aload 4, 2) := by decide +kernel
theorem dX8_tape_55 : decode cX8_tape 55 = .ok (.iload_n 2, 1) := by decide +kernel
theorem dX8_tape_56 : decode cX8_tape 56 = .ok (.iload_n 3, 1) := by decide +kernel
theorem dX8_tape_57 : decode cX8_tape 57 = .ok (.invokevirtual 326, 3) := by decide +kernel
theorem dX8_tape_60 : decode cX8_tape 60 = .ok (.iconst 1, 1) := by decide +kernel
theorem dX8_tape_61 : decode cX8_tape 61 = .ok (.ireturn, 1) := by decide +kernel
theorem dX8_item_0 : decode cX8_item 0 = .ok (.aload_n 0, 1) := by decide +kernel
theorem dX8_item_1 : decode cX8_item 1 = .ok (.iload_n 1, 1) := by decide +kernel
theorem dX8_item_2 : decode cX8_item 2 = .ok (.invokevirtual 301, 3) := by decide +kernel
theorem dX8_item_5 : decode cX8_item 5 = .ok (.astore 5, 2) := by decide +kernel
theorem dX8_item_7 : decode cX8_item 7 = .ok (.aload 5, 2) := by decide +kernel
theorem dX8_item_9 : decode cX8_item 9 = .ok (.ifnonnull 5, 3) := by decide +kernel
theorem dX8_item_12 : decode cX8_item 12 = .ok (.iconst (-1), 1) := by decide +kernel
theorem dX8_item_13 : decode cX8_item 13 = .ok (.ireturn, 1) := by decide +kernel
theorem dX8_item_14 : decode cX8_item 14 = .ok (.aload 5, 2) := by decide +kernel
theorem dX8_item_16 : decode cX8_item 16 = .ok (.getfield 305, 3) := by decide +kernel
theorem dX8_item_19 : decode cX8_item 19 = .ok (.iconst (-1), 1) := by decide +kernel
theorem dX8_item_20 : decode cX8_item 20 = .ok (.if_icmp .ne 6, 3) := by decide +kernel
theorem dX8_item_23 : decode cX8_item 23 = .ok (.bipush (-11), 2) := by decide +kernel
theorem dX8_item_25 : decode cX8_item 25 = .ok (.ireturn, 1) := by decide +kernel
theorem dX8_item_26 : decode cX8_item 26 = .ok (.aload 5, 2) := by decide +kernel
theorem dX8_item_28 : decode cX8_item 28 = .ok (.iload_n 2, 1) := by decide +kernel
theorem dX8_item_29 : decode cX8_item 29 = .ok (.invokevirtual 329, 3) := by decide +kernel
theorem dX8_item_32 : decode cX8_item 32 = .ok (.ifCond .ne 6, 3) := by decide +kernel
theorem dX8_item_35 : decode cX8_item 35 = .ok (.bipush (-13), 2) := by decide +kernel
theorem dX8_item_37 : decode cX8_item 37 = .ok (.ireturn, 1) := by decide +kernel
theorem dX8_item_38 : decode cX8_item 38 = .ok (.aload 5, 2) := by decide +kernel
theorem dX8_item_40 : decode cX8_item 40 = .ok (.getfield 312, 3) := by decide +kernel
theorem dX8_item_43 : decode cX8_item 43 = .ok (.iload_n 2, 1) := by decide +kernel
theorem dX8_item_44 : decode cX8_item 44 = .ok (.aload 5, 2) := by decide +kernel
theorem dX8_item_46 : decode cX8_item 46 = .ok (.lload_n 3, 1) := by decide +kernel
theorem dX8_item_47 : decode cX8_item 47 = .ok (.invokevirtual 330, 3) := by decide +kernel
theorem dX8_item_50 : decode cX8_item 50 = .ok (.lastore, 1) := by decide +kernel
theorem dX8_item_51 : decode cX8_item 51 = .ok (.iconst 1, 1) := by decide +kernel
theorem dX8_item_52 : decode cX8_item 52 = .ok (.ireturn, 1) := by decide +kernel
theorem dX8_peek_0 : decode cX8_peek 0 = .ok (.aload_n 0, 1) := by decide +kernel
theorem dX8_peek_1 : decode cX8_peek 1 = .ok (.iload_n 1, 1) := by decide +kernel
theorem dX8_peek_2 : decode cX8_peek 2 = .ok (.invokevirtual 301, 3) := by decide +kernel
theorem dX8_peek_5 : decode cX8_peek 5 = .ok (.astore_n 3, 1) := by decide +kernel
theorem dX8_peek_6 : decode cX8_peek 6 = .ok (.aload_n 3, 1) := by decide +kernel
theorem dX8_peek_7 : decode cX8_peek 7 = .ok (.ifnull 11, 3) := by decide +kernel
theorem dX8_peek_10 : decode cX8_peek 10 = .ok (.aload_n 3, 1) := by decide +kernel
theorem dX8_peek_11 : decode cX8_peek 11 = .ok (.iload_n 2, 1) := by decide +kernel
theorem dX8_peek_12 : decode cX8_peek 12 = .ok (.invokevirtual 329, 3) := by decide +kernel
theorem dX8_peek_15 : decode cX8_peek 15 = .ok (.ifCond .ne 7, 3) := by decide +kernel
theorem dX8_peek_18 : decode cX8_peek 18 = .ok (.ldc2_w 248, 3) := by decide +kernel
theorem dX8_peek_21 : decode cX8_peek 21 = .ok (.lreturn, 1) := by decide +kernel
theorem dX8_peek_22 : decode cX8_peek 22 = .ok (.aload_n 3, 1) := by decide +kernel
theorem dX8_peek_23 : decode cX8_peek 23 = .ok (.getfield 312, 3) := by decide +kernel
theorem dX8_peek_26 : decode cX8_peek 26 = .ok (.iload_n 2, 1) := by decide +kernel
theorem dX8_peek_27 : decode cX8_peek 27 = .ok (.laload, 1) := by decide +kernel
theorem dX8_peek_28 : decode cX8_peek 28 = .ok (.lreturn, 1) := by decide +kernel
theorem dX8_shift_0 : decode cX8_shift 0 = .ok (.aload_n 0, 1) := by decide +kernel
theorem dX8_shift_1 : decode cX8_shift 1 = .ok (.iload_n 1, 1) := by decide +kernel
theorem dX8_shift_2 : decode cX8_shift 2 = .ok (.invokevirtual 301, 3) := by decide +kernel
theorem dX8_shift_5 : decode cX8_shift 5 = .ok (.astore 6, 2) := by decide +kernel
theorem dX8_shift_7 : decode cX8_shift 7 = .ok (.aload_n 0, 1) := by decide +kernel
theorem dX8_shift_8 : decode cX8_shift 8 = .ok (.iload_n 3, 1) := by decide +kernel
theorem dX8_shift_9 : decode cX8_shift 9 = .ok (.invokevirtual 301, 3) := by decide +kernel
theorem dX8_shift_12 : decode cX8_shift 12 = .ok (.astore 7, 2) := by decide +kernel
theorem dX8_shift_14 : decode cX8_shift 14 = .ok (.aload 6, 2) := by decide +kernel
theorem dX8_shift_16 : decode cX8_shift 16 = .ok (.ifnull 8, 3) := by decide +kernel
theorem dX8_shift_19 : decode cX8_shift 19 = .ok (.aload 7, 2) := by decide +kernel
theorem dX8_shift_21 : decode cX8_shift 21 = .ok (.ifnonnull 5, 3) := by decide +kernel
theorem dX8_shift_24 : decode cX8_shift 24 = .ok (.iconst (-1), 1) := by decide +kernel
theorem dX8_shift_25 : decode cX8_shift 25 = .ok (.ireturn, 1) := by decide +kernel
theorem dX8_shift_26 : decode cX8_shift 26 = .ok (.aload 6, 2) := by decide +kernel
theorem dX8_shift_28 : decode cX8_shift 28 = .ok (.getfield 305, 3) := by decide +kernel
theorem dX8_shift_31 : decode cX8_shift 31 = .ok (.iconst (-1), 1) := by decide +kernel
theorem dX8_shift_32 : decode cX8_shift 32 = .ok (.if_icmp .eq 12, 3) := by decide +kernel
theorem dX8_shift_35 : decode cX8_shift 35 = .ok (.aload 7, 2) := by decide +kernel
theorem dX8_shift_37 : decode cX8_shift 37 = .ok (.getfield 305, 3) := by decide +kernel
theorem dX8_shift_40 : decode cX8_shift 40 = .ok (.iconst (-1), 1) := by decide +kernel
theorem dX8_shift_41 : decode cX8_shift 41 = .ok (.if_icmp .ne 6, 3) := by decide +kernel
theorem dX8_shift_44 : decode cX8_shift 44 = .ok (.bipush (-11), 2) := by decide +kernel
theorem dX8_shift_46 : decode cX8_shift 46 = .ok (.ireturn, 1) := by decide +kernel
theorem dX8_shift_47 : decode cX8_shift 47 = .ok (.aload 6, 2) := by decide +kernel
theorem dX8_shift_49 : decode cX8_shift 49 = .ok (.getfield 305, 3) := by decide +kernel
theorem dX8_shift_52 : decode cX8_shift 52 = .ok (.aload 7, 2) := by decide +kernel
theorem dX8_shift_54 : decode cX8_shift 54 = .ok (.getfield 305, 3) := by decide +kernel
theorem dX8_shift_57 : decode cX8_shift 57 = .ok (.if_icmp .eq 6, 3) := by decide +kernel
theorem dX8_shift_60 : decode cX8_shift 60 = .ok (.bipush (-12), 2) := by decide +kernel
theorem dX8_shift_62 : decode cX8_shift 62 = .ok (.ireturn, 1) := by decide +kernel
theorem dX8_shift_63 : decode cX8_shift 63 = .ok (.aload 6, 2) := by decide +kernel
theorem dX8_shift_65 : decode cX8_shift 65 = .ok (.iload_n 2, 1) := by decide +kernel
theorem dX8_shift_66 : decode cX8_shift 66 = .ok (.iload 5, 2) := by decide +kernel
theorem dX8_shift_68 : decode cX8_shift 68 = .ok (.invokevirtual 334, 3) := by decide +kernel
theorem dX8_shift_71 : decode cX8_shift 71 = .ok (.ifCond .eq 15, 3) := by decide +kernel
theorem dX8_shift_74 : decode cX8_shift 74 = .ok (.aload 7, 2) := by decide +kernel
theorem dX8_shift_76 : decode cX8_shift 76 = .ok (.iload 4, 2) := by decide +kernel
theorem dX8_shift_78 : decode cX8_shift 78 = .ok (.iload 5, 2) := by decide +kernel
theorem dX8_shift_80 : decode cX8_shift 80 = .ok (.invokevirtual 334, 3) := by decide +kernel
theorem dX8_shift_83 : decode cX8_shift 83 = .ok (.ifCond .ne 6, 3) := by decide +kernel
theorem dX8_shift_86 : decode cX8_shift 86 = .ok (.bipush (-13), 2) := by decide +kernel
theorem dX8_shift_88 : decode cX8_shift 88 = .ok (.ireturn, 1) := by decide +kernel
theorem dX8_shift_89 : decode cX8_shift 89 = .ok (.aload 6, 2) := by decide +kernel
theorem dX8_shift_91 : decode cX8_shift 91 = .ok (.getfield 312, 3) := by decide +kernel
theorem dX8_shift_94 : decode cX8_shift 94 = .ok (.iload_n 2, 1) := by decide +kernel
theorem dX8_shift_95 : decode cX8_shift 95 = .ok (.aload 7, 2) := by decide +kernel
theorem dX8_shift_97 : decode cX8_shift 97 = .ok (.getfield 312, 3) := by decide +kernel
theorem dX8_shift_100 : decode cX8_shift 100 = .ok (.iload 4, 2) := by decide +kernel
theorem dX8_shift_102 : decode cX8_shift 102 = .ok (.iload 5, 2) := by decide +kernel
theorem dX8_shift_104 : decode cX8_shift 104 = .ok (.invokestatic 338, 3) := by decide +kernel
theorem dX8_shift_107 : decode cX8_shift 107 = .ok (.iload 5, 2) := by decide +kernel
theorem dX8_shift_109 : decode cX8_shift 109 = .ok (.ireturn, 1) := by decide +kernel
theorem dX8_tapeOf_0 : decode cX8_tapeOf 0 = .ok (.iload_n 1, 1) := by decide +kernel
theorem dX8_tapeOf_1 : decode cX8_tapeOf 1 = .ok (.ifCond .lt 21, 3) := by decide +kernel
theorem dX8_tapeOf_4 : decode cX8_tapeOf 4 = .ok (.iload_n 1, 1) := by decide +kernel
theorem dX8_tapeOf_5 : decode cX8_tapeOf 5 = .ok (.aload_n 0, 1) := by decide +kernel
theorem dX8_tapeOf_6 : decode cX8_tapeOf 6 = .ok (.getfield 58, 3) := by decide +kernel
theorem dX8_tapeOf_9 : decode cX8_tapeOf 9 = .ok (.arraylength, 1) := by decide +kernel
theorem dX8_tapeOf_10 : decode cX8_tapeOf 10 = .ok (.if_icmp .ge 12, 3) := by decide +kernel
theorem dX8_tapeOf_13 : decode cX8_tapeOf 13 = .ok (.aload_n 0, 1) := by decide +kernel
theorem dX8_tapeOf_14 : decode cX8_tapeOf 14 = .ok (.getfield 58, 3) := by decide +kernel
theorem dX8_tapeOf_17 : decode cX8_tapeOf 17 = .ok (.iload_n 1, 1) := by decide +kernel
theorem dX8_tapeOf_18 : decode cX8_tapeOf 18 = .ok (.aaload, 1) := by decide +kernel
theorem dX8_tapeOf_19 : decode cX8_tapeOf 19 = .ok (.goto 4, 3) := by decide +kernel
theorem dX8_tapeOf_22 : decode cX8_tapeOf 22 = .ok (.aconst_null, 1) := by decide +kernel
theorem dX8_tapeOf_23 : decode cX8_tapeOf 23 = .ok (.areturn, 1) := by decide +kernel
theorem dX8_isOdds_0 : decode cX8_isOdds 0 = .ok (.iload_n 0, 1) := by decide +kernel
theorem dX8_isOdds_1 : decode cX8_isOdds 1 = .ok (.ifCond .lt 13, 3) := by decide +kernel
theorem dX8_isOdds_4 : decode cX8_isOdds 4 = .ok (.iload_n 0, 1) := by decide +kernel
theorem dX8_isOdds_5 : decode cX8_isOdds 5 = .ok (.bipush 100, 2) := by decide +kernel
theorem dX8_isOdds_7 : decode cX8_isOdds 7 = .ok (.if_icmp .gt 7, 3) := by decide +kernel
theorem dX8_isOdds_10 : decode cX8_isOdds 10 = .ok (.iconst 1, 1) := by decide +kernel
theorem dX8_isOdds_11 : decode cX8_isOdds 11 = .ok (.goto 4, 3) := by decide +kernel
theorem dX8_isOdds_14 : decode cX8_isOdds 14 = .ok (.iconst 0, 1) := by decide +kernel
theorem dX8_isOdds_15 : decode cX8_isOdds 15 = .ok (.ireturn, 1) := by decide +kernel
theorem dX8_isKind_0 : decode cX8_isKind 0 = .ok (.iload_n 0, 1) := by decide +kernel
theorem dX8_isKind_1 : decode cX8_isKind 1 = .ok (.ifCond .lt 12, 3) := by decide +kernel
theorem dX8_isKind_4 : decode cX8_isKind 4 = .ok (.iload_n 0, 1) := by decide +kernel
theorem dX8_isKind_5 : decode cX8_isKind 5 = .ok (.iconst 2, 1) := by decide +kernel
theorem dX8_isKind_6 : decode cX8_isKind 6 = .ok (.if_icmp .gt 7, 3) := by decide +kernel
theorem dX8_isKind_9 : decode cX8_isKind 9 = .ok (.iconst 1, 1) := by decide +kernel
theorem dX8_isKind_10 : decode cX8_isKind 10 = .ok (.goto 4, 3) := by decide +kernel
theorem dX8_isKind_13 : decode cX8_isKind 13 = .ok (.iconst 0, 1) := by decide +kernel
theorem dX8_isKind_14 : decode cX8_isKind 14 = .ok (.ireturn, 1) := by decide +kernel
theorem dX8_isNeed_0 : decode cX8_isNeed 0 = .ok (.iload_n 0, 1) := by decide +kernel
theorem dX8_isNeed_1 : decode cX8_isNeed 1 = .ok (.ifCond .lt 12, 3) := by decide +kernel
theorem dX8_isNeed_4 : decode cX8_isNeed 4 = .ok (.iload_n 0, 1) := by decide +kernel
theorem dX8_isNeed_5 : decode cX8_isNeed 5 = .ok (.iconst 5, 1) := by decide +kernel
theorem dX8_isNeed_6 : decode cX8_isNeed 6 = .ok (.if_icmp .gt 7, 3) := by decide +kernel
theorem dX8_isNeed_9 : decode cX8_isNeed 9 = .ok (.iconst 1, 1) := by decide +kernel
theorem dX8_isNeed_10 : decode cX8_isNeed 10 = .ok (.goto 4, 3) := by decide +kernel
theorem dX8_isNeed_13 : decode cX8_isNeed 13 = .ok (.iconst 0, 1) := by decide +kernel
theorem dX8_isNeed_14 : decode cX8_isNeed 14 = .ok (.ireturn, 1) := by decide +kernel
theorem dX8_isLine_0 : decode cX8_isLine 0 = .ok (.iload_n 0, 1) := by decide +kernel
theorem dX8_isLine_1 : decode cX8_isLine 1 = .ok (.ifCond .eq 8, 3) := by decide +kernel
theorem dX8_isLine_4 : decode cX8_isLine 4 = .ok (.iload_n 0, 1) := by decide +kernel
theorem dX8_isLine_5 : decode cX8_isLine 5 = .ok (.iconst 1, 1) := by decide +kernel
theorem dX8_isLine_6 : decode cX8_isLine 6 = .ok (.if_icmp .ne 7, 3) := by decide +kernel
theorem dX8_isLine_9 : decode cX8_isLine 9 = .ok (.iconst 1, 1) := by decide +kernel
theorem dX8_isLine_10 : decode cX8_isLine 10 = .ok (.goto 4, 3) := by decide +kernel
theorem dX8_isLine_13 : decode cX8_isLine 13 = .ok (.iconst 0, 1) := by decide +kernel
theorem dX8_isLine_14 : decode cX8_isLine 14 = .ok (.ireturn, 1) := by decide +kernel
theorem dX8_says_0 : decode cX8_says 0 = .ok (.lload_n 0, 1) := by decide +kernel
theorem dX8_says_1 : decode cX8_says 1 = .ok (.iload_n 2, 1) := by decide +kernel
theorem dX8_says_2 : decode cX8_says 2 = .ok (.lushr, 1) := by decide +kernel
theorem dX8_says_3 : decode cX8_says 3 = .ok (.lconst 1, 1) := by decide +kernel
theorem dX8_says_4 : decode cX8_says 4 = .ok (.land, 1) := by decide +kernel
theorem dX8_says_5 : decode cX8_says 5 = .ok (.lconst 0, 1) := by decide +kernel
theorem dX8_says_6 : decode cX8_says 6 = .ok (.lcmp, 1) := by decide +kernel
theorem dX8_says_7 : decode cX8_says 7 = .ok (.ifCond .eq 7, 3) := by decide +kernel
theorem dX8_says_10 : decode cX8_says 10 = .ok (.iconst 1, 1) := by decide +kernel
theorem dX8_says_11 : decode cX8_says 11 = .ok (.goto 4, 3) := by decide +kernel
theorem dX8_says_14 : decode cX8_says 14 = .ok (.iconst 0, 1) := by decide +kernel
theorem dX8_says_15 : decode cX8_says 15 = .ok (.ireturn, 1) := by decide +kernel
theorem dX8_lowest_0 : decode cX8_lowest 0 = .ok (.lload_n 0, 1) := by decide +kernel
theorem dX8_lowest_1 : decode cX8_lowest 1 = .ok (.lload_n 2, 1) := by decide +kernel
theorem dX8_lowest_2 : decode cX8_lowest 2 = .ok (.invokestatic 344, 3) := by decide +kernel
theorem dX8_lowest_5 : decode cX8_lowest 5 = .ok (.lstore 5, 2) := by decide +kernel
theorem dX8_lowest_7 : decode cX8_lowest 7 = .ok (.iload 4, 2) := by decide +kernel
theorem dX8_lowest_9 : decode cX8_lowest 9 = .ok (.ifCond .ne 7, 3) := by decide +kernel
theorem dX8_lowest_12 : decode cX8_lowest 12 = .ok (.lload_n 0, 1) := by decide +kernel
theorem dX8_lowest_13 : decode cX8_lowest 13 = .ok (.goto 4, 3) := by decide +kernel
theorem dX8_lowest_16 : decode cX8_lowest 16 = .ok (.lload_n 2, 1) := by decide +kernel
theorem dX8_lowest_17 : decode cX8_lowest 17 = .ok (.lstore 7, 2) := by decide +kernel
theorem dX8_lowest_19 : decode cX8_lowest 19 = .ok (.lload 5, 2) := by decide +kernel
theorem dX8_lowest_21 : decode cX8_lowest 21 = .ok (.lconst 0, 1) := by decide +kernel
theorem dX8_lowest_22 : decode cX8_lowest 22 = .ok (.lcmp, 1) := by decide +kernel
theorem dX8_lowest_23 : decode cX8_lowest 23 = .ok (.ifCond .le 11, 3) := by decide +kernel
theorem dX8_lowest_26 : decode cX8_lowest 26 = .ok (.lload 7, 2) := by decide +kernel
theorem dX8_lowest_28 : decode cX8_lowest 28 = .ok (.lload 5, 2) := by decide +kernel
theorem dX8_lowest_30 : decode cX8_lowest 30 = .ok (.ldiv, 1) := by decide +kernel
theorem dX8_lowest_31 : decode cX8_lowest 31 = .ok (.goto 5, 3) := by decide +kernel
theorem dX8_lowest_34 : decode cX8_lowest 34 = .ok (.lload 7, 2) := by decide +kernel
theorem dX8_lowest_36 : decode cX8_lowest 36 = .ok (.lreturn, 1) := by decide +kernel
theorem dX8_commonDivisor_0 : decode cX8_commonDivisor 0 = .ok (.lload_n 2, 1) := by decide +kernel
theorem dX8_commonDivisor_1 : decode cX8_commonDivisor 1 = .ok (.lstore 4, 2) := by decide +kernel
theorem dX8_commonDivisor_3 : decode cX8_commonDivisor 3 = .ok (.lload_n 0, 1) := by decide +kernel
theorem dX8_commonDivisor_4 : decode cX8_commonDivisor 4 = .ok (.lstore 6, 2) := by decide +kernel
theorem dX8_commonDivisor_6 : decode cX8_commonDivisor 6 = .ok (.iconst 0, 1) := by decide +kernel
theorem dX8_commonDivisor_7 : decode cX8_commonDivisor 7 = .ok (.istore 8, 2) := by decide +kernel
theorem dX8_commonDivisor_9 : decode cX8_commonDivisor 9 = .ok (.iload 8, 2) := by decide +kernel
theorem dX8_commonDivisor_11 : decode cX8_commonDivisor 11 = .ok (.sipush 200, 3) := by decide +kernel
theorem dX8_commonDivisor_14 : decode cX8_commonDivisor 14 = .ok (.if_icmp .ge 31, 3) := by decide +kernel
theorem dX8_commonDivisor_17 : decode cX8_commonDivisor 17 = .ok (.lload 6, 2) := by decide +kernel
theorem dX8_commonDivisor_19 : decode cX8_commonDivisor 19 = .ok (.lconst 0, 1) := by decide +kernel
theorem dX8_commonDivisor_20 : decode cX8_commonDivisor 20 = .ok (.lcmp, 1) := by decide +kernel
theorem dX8_commonDivisor_21 : decode cX8_commonDivisor 21 = .ok (.ifCond .eq 24, 3) := by decide +kernel
theorem dX8_commonDivisor_24 : decode cX8_commonDivisor 24 = .ok (.lload 4, 2) := by decide +kernel
theorem dX8_commonDivisor_26 : decode cX8_commonDivisor 26 = .ok (.lload 6, 2) := by decide +kernel
theorem dX8_commonDivisor_28 : decode cX8_commonDivisor 28 = .ok (.lrem, 1) := by decide +kernel
theorem dX8_commonDivisor_29 : decode cX8_commonDivisor 29 = .ok (.lstore 9, 2) := by decide +kernel
theorem dX8_commonDivisor_31 : decode cX8_commonDivisor 31 = .ok (.lload 6, 2) := by decide +kernel
theorem dX8_commonDivisor_33 : decode cX8_commonDivisor 33 = .ok (.lstore 4, 2) := by decide +kernel
theorem dX8_commonDivisor_35 : decode cX8_commonDivisor 35 = .ok (.lload 9, 2) := by decide +kernel
theorem dX8_commonDivisor_37 : decode cX8_commonDivisor 37 = .ok (.lstore 6, 2) := by decide +kernel
theorem dX8_commonDivisor_39 : decode cX8_commonDivisor 39 = .ok (.iinc 8 1, 3) := by decide +kernel
theorem dX8_commonDivisor_42 : decode cX8_commonDivisor 42 = .ok (.goto (-33), 3) := by decide +kernel
theorem dX8_commonDivisor_45 : decode cX8_commonDivisor 45 = .ok (.lload 4, 2) := by decide +kernel
theorem dX8_commonDivisor_47 : decode cX8_commonDivisor 47 = .ok (.lreturn, 1) := by decide +kernel
theorem dJ6_bitCount_0f7a4_0 : decode cJ6_bitCount_0f7a4 0 = .ok (.iload_n 0, 1) := by decide +kernel
theorem dJ6_bitCount_0f7a4_1 : decode cJ6_bitCount_0f7a4 1 = .ok (.iload_n 0, 1) := by decide +kernel
theorem dJ6_bitCount_0f7a4_2 : decode cJ6_bitCount_0f7a4 2 = .ok (.iconst 1, 1) := by decide +kernel
theorem dJ6_bitCount_0f7a4_3 : decode cJ6_bitCount_0f7a4 3 = .ok (.iushr, 1) := by decide +kernel
theorem dJ6_bitCount_0f7a4_4 : decode cJ6_bitCount_0f7a4 4 = .ok (.ldc_w 265, 3) := by decide +kernel
theorem dJ6_bitCount_0f7a4_7 : decode cJ6_bitCount_0f7a4 7 = .ok (.iand, 1) := by decide +kernel
theorem dJ6_bitCount_0f7a4_8 : decode cJ6_bitCount_0f7a4 8 = .ok (.isub, 1) := by decide +kernel
theorem dJ6_bitCount_0f7a4_9 : decode cJ6_bitCount_0f7a4 9 = .ok (.istore_n 0, 1) := by decide +kernel
theorem dJ6_bitCount_0f7a4_10 : decode cJ6_bitCount_0f7a4 10 = .ok (.iload_n 0, 1) := by decide +kernel
theorem dJ6_bitCount_0f7a4_11 : decode cJ6_bitCount_0f7a4 11 = .ok (.ldc_w 266, 3) := by decide +kernel
theorem dJ6_bitCount_0f7a4_14 : decode cJ6_bitCount_0f7a4 14 = .ok (.iand, 1) := by decide +kernel
theorem dJ6_bitCount_0f7a4_15 : decode cJ6_bitCount_0f7a4 15 = .ok (.iload_n 0, 1) := by decide +kernel
theorem dJ6_bitCount_0f7a4_16 : decode cJ6_bitCount_0f7a4 16 = .ok (.iconst 2, 1) := by decide +kernel
theorem dJ6_bitCount_0f7a4_17 : decode cJ6_bitCount_0f7a4 17 = .ok (.iushr, 1) := by decide +kernel
theorem dJ6_bitCount_0f7a4_18 : decode cJ6_bitCount_0f7a4 18 = .ok (.ldc_w 266, 3) := by decide +kernel
theorem dJ6_bitCount_0f7a4_21 : decode cJ6_bitCount_0f7a4 21 = .ok (.iand, 1) := by decide +kernel
theorem dJ6_bitCount_0f7a4_22 : decode cJ6_bitCount_0f7a4 22 = .ok (.iadd, 1) := by decide +kernel
theorem dJ6_bitCount_0f7a4_23 : decode cJ6_bitCount_0f7a4 23 = .ok (.istore_n 0, 1) := by decide +kernel
theorem dJ6_bitCount_0f7a4_24 : decode cJ6_bitCount_0f7a4 24 = .ok (.iload_n 0, 1) := by decide +kernel
theorem dJ6_bitCount_0f7a4_25 : decode cJ6_bitCount_0f7a4 25 = .ok (.iload_n 0, 1) := by decide +kernel
theorem dJ6_bitCount_0f7a4_26 : decode cJ6_bitCount_0f7a4 26 = .ok (.iconst 4, 1) := by decide +kernel
theorem dJ6_bitCount_0f7a4_27 : decode cJ6_bitCount_0f7a4 27 = .ok (.iushr, 1) := by decide +kernel
theorem dJ6_bitCount_0f7a4_28 : decode cJ6_bitCount_0f7a4 28 = .ok (.iadd, 1) := by decide +kernel
theorem dJ6_bitCount_0f7a4_29 : decode cJ6_bitCount_0f7a4 29 = .ok (.ldc_w 267, 3) := by decide +kernel
theorem dJ6_bitCount_0f7a4_32 : decode cJ6_bitCount_0f7a4 32 = .ok (.iand, 1) := by decide +kernel
theorem dJ6_bitCount_0f7a4_33 : decode cJ6_bitCount_0f7a4 33 = .ok (.istore_n 0, 1) := by decide +kernel
theorem dJ6_bitCount_0f7a4_34 : decode cJ6_bitCount_0f7a4 34 = .ok (.iload_n 0, 1) := by decide +kernel
theorem dJ6_bitCount_0f7a4_35 : decode cJ6_bitCount_0f7a4 35 = .ok (.iload_n 0, 1) := by decide +kernel
theorem dJ6_bitCount_0f7a4_36 : decode cJ6_bitCount_0f7a4 36 = .ok (.bipush 8, 2) := by decide +kernel
theorem dJ6_bitCount_0f7a4_38 : decode cJ6_bitCount_0f7a4 38 = .ok (.iushr, 1) := by decide +kernel
theorem dJ6_bitCount_0f7a4_39 : decode cJ6_bitCount_0f7a4 39 = .ok (.iadd, 1) := by decide +kernel
theorem dJ6_bitCount_0f7a4_40 : decode cJ6_bitCount_0f7a4 40 = .ok (.istore_n 0, 1) := by decide +kernel
theorem dJ6_bitCount_0f7a4_41 : decode cJ6_bitCount_0f7a4 41 = .ok (.iload_n 0, 1) := by decide +kernel
theorem dJ6_bitCount_0f7a4_42 : decode cJ6_bitCount_0f7a4 42 = .ok (.iload_n 0, 1) := by decide +kernel
theorem dJ6_bitCount_0f7a4_43 : decode cJ6_bitCount_0f7a4 43 = .ok (.bipush 16, 2) := by decide +kernel
theorem dJ6_bitCount_0f7a4_45 : decode cJ6_bitCount_0f7a4 45 = .ok (.iushr, 1) := by decide +kernel
theorem dJ6_bitCount_0f7a4_46 : decode cJ6_bitCount_0f7a4 46 = .ok (.iadd, 1) := by decide +kernel
theorem dJ6_bitCount_0f7a4_47 : decode cJ6_bitCount_0f7a4 47 = .ok (.istore_n 0, 1) := by decide +kernel
theorem dJ6_bitCount_0f7a4_48 : decode cJ6_bitCount_0f7a4 48 = .ok (.iload_n 0, 1) := by decide +kernel
theorem dJ6_bitCount_0f7a4_49 : decode cJ6_bitCount_0f7a4 49 = .ok (.bipush 63, 2) := by decide +kernel
theorem dJ6_bitCount_0f7a4_51 : decode cJ6_bitCount_0f7a4 51 = .ok (.iand, 1) := by decide +kernel
theorem dJ6_bitCount_0f7a4_52 : decode cJ6_bitCount_0f7a4 52 = .ok (.ireturn, 1) := by decide +kernel
theorem dJ9_max_7cf53_0 : decode cJ9_max_7cf53 0 = .ok (.iload_n 0, 1) := by decide +kernel
theorem dJ9_max_7cf53_1 : decode cJ9_max_7cf53 1 = .ok (.iload_n 1, 1) := by decide +kernel
theorem dJ9_max_7cf53_2 : decode cJ9_max_7cf53 2 = .ok (.if_icmp .lt 7, 3) := by decide +kernel
theorem dJ9_max_7cf53_5 : decode cJ9_max_7cf53 5 = .ok (.iload_n 0, 1) := by decide +kernel
theorem dJ9_max_7cf53_6 : decode cJ9_max_7cf53 6 = .ok (.goto 4, 3) := by decide +kernel
theorem dJ9_max_7cf53_9 : decode cJ9_max_7cf53 9 = .ok (.iload_n 1, 1) := by decide +kernel
theorem dJ9_max_7cf53_10 : decode cJ9_max_7cf53 10 = .ok (.ireturn, 1) := by decide +kernel
theorem dJ9_min_7cf53_0 : decode cJ9_min_7cf53 0 = .ok (.iload_n 0, 1) := by decide +kernel
theorem dJ9_min_7cf53_1 : decode cJ9_min_7cf53 1 = .ok (.iload_n 1, 1) := by decide +kernel
theorem dJ9_min_7cf53_2 : decode cJ9_min_7cf53 2 = .ok (.if_icmp .gt 7, 3) := by decide +kernel
theorem dJ9_min_7cf53_5 : decode cJ9_min_7cf53 5 = .ok (.iload_n 0, 1) := by decide +kernel
theorem dJ9_min_7cf53_6 : decode cJ9_min_7cf53 6 = .ok (.goto 4, 3) := by decide +kernel
theorem dJ9_min_7cf53_9 : decode cJ9_min_7cf53 9 = .ok (.iload_n 1, 1) := by decide +kernel
theorem dJ9_min_7cf53_10 : decode cJ9_min_7cf53 10 = .ok (.ireturn, 1) := by decide +kernel
end
section
/-! ===== core: a world of fixed shape, its memory of ints and longs; the judgement fm_W and its rows ===== -/
abbrev fm_M : Type := (Nat → Nat → Int32) × (Nat → Nat → Int64)
abbrev fm_S : Type := (Nat × List (Option Nat)) ⊕ (Nat × Nat)
def fm_fv (rh : Nat → Nat) (M : fm_M) (k j : Nat) (o : Option Nat) : Value := match o with
  | some r => .ref (rh r)
  | none => .int (M.1 k j)
def fm_ac (rh : Nat → Nat) (M : fm_M) (k t : Nat) : (Nat → Int32) ⊕ (Nat → Int64) ⊕ (Nat → UInt32) ⊕ (Nat → UInt64) ⊕ (Nat → Option Nat) :=
  match t with
  | 1 => .inr (.inl (M.2 k))
  | 4 => .inr (.inr (.inr (.inr (fun j => some (rh (k + 1 + 2 * j))))))
  | _ => .inl (M.1 k)
def fm_e (rh : Nat → Nat) (kA : Nat → ClassId) (M : fm_M) (k : Nat) (x : fm_S) : Nat × va_E := match x with
  | .inl q => (rh k, .inr (q.1, q.2.mapIdx (fm_fv rh M k)))
  | .inr q => (rh k, .inl (kA q.1, q.2, fm_ac rh M k q.1))
def fm_w (sh : List fm_S) (rh : Nat → Nat) (kA : Nat → ClassId) (M : fm_M) : va_W := sh.mapIdx (fm_e rh kA M)
def fm_tys (kA : Nat → ClassId) : List (ClassId × FieldType) := [(kA 0, .int), (kA 1, .long), (kA 2, .byte), (kA 3, .boolean), (kA 4, .object "FaultGraph$Tape")]
def fm_u {α : Type} (f : Nat → Nat → α) (k j : Nat) (v : α) : Nat → Nat → α := fun a => if a = k then (fun b => if b = j then v else f k b) else f a
def fm_row {α : Type} (f : Nat → Nat → α) (k : Nat) (g : Nat → α) : Nat → Nat → α := fun a => if a = k then g else f a
abbrev fm_pi (M : fm_M) (k j : Nat) (v : Int32) : fm_M := (fm_u M.1 k j v, M.2)
abbrev fm_pl (M : fm_M) (k j : Nat) (v : Int64) : fm_M := (M.1, fm_u M.2 k j v)
theorem fm_u_same {α : Type} (f : Nat → Nat → α) (k j : Nat) (v : α) : fm_u f k j v k j = v := by simp [fm_u]
theorem fm_u_row {α : Type} (f : Nat → Nat → α) (k j : Nat) (v : α) : fm_u f k j v k = fun b => if b = j then v else f k b := by simp [fm_u]
theorem fm_u_ne {α : Type} (f : Nat → Nat → α) {k a : Nat} (j : Nat) (v : α) (h : a ≠ k) : fm_u f k j v a = f a := by simp [fm_u, h]
theorem fm_u_at {α : Type} (f : Nat → Nat → α) (k j : Nat) (v : α) (a b : Nat) : fm_u f k j v a b = if a = k ∧ b = j then v else f a b := by
  unfold fm_u
  by_cases h : a = k
  · subst h
    by_cases hb : b = j <;> simp [hb]
  · simp [h]
theorem fm_row_same {α : Type} (f : Nat → Nat → α) (k : Nat) (g : Nat → α) : fm_row f k g k = g := by simp [fm_row]
theorem fm_row_ne {α : Type} (f : Nat → Nat → α) {k a : Nat} (g : Nat → α) (h : a ≠ k) : fm_row f k g a = f a := by simp [fm_row, h]
theorem fm_w_get {sh : List fm_S} {rh : Nat → Nat} {kA : Nat → ClassId} {M : fm_M} {k : Nat} {x : fm_S} (h : sh[k]? = some x) : (fm_w sh rh kA M)[k]? = some (fm_e rh kA M k x) := by
  unfold fm_w
  rw [List.getElem?_mapIdx, h]
  rfl
theorem fm_e_fst (rh : Nat → Nat) (kA : Nat → ClassId) (M : fm_M) (k : Nat) (x : fm_S) : (fm_e rh kA M k x).1 = rh k := by
  cases x <;> rfl
theorem fm_w_inv {sh : List fm_S} {rh : Nat → Nat} {kA : Nat → ClassId} {M : fm_M} {k : Nat} {q : Nat × va_E} (h : (fm_w sh rh kA M)[k]? = some q) : ∃ x, sh[k]? = some x ∧ q.1 = rh k := by
  unfold fm_w at h
  rw [List.getElem?_mapIdx] at h
  cases hs : sh[k]? with
  | none => rw [hs] at h; cases h
  | some x =>
    rw [hs] at h
    refine ⟨x, rfl, ?_⟩
    have h2 : fm_e rh kA M k x = q := Option.some.inj h
    rw [← h2]
    exact fm_e_fst rh kA M k x
theorem fm_e_ne {rh : Nat → Nat} {kA : Nat → ClassId} {M M' : fm_M} {a : Nat} (h1 : M'.1 a = M.1 a) (h2 : M'.2 a = M.2 a) (y : fm_S) : fm_e rh kA M' a y = fm_e rh kA M a y := by
  have hf : fm_fv rh M' a = fm_fv rh M a := by
    funext j o
    cases o with
    | none => simp only [fm_fv, h1]
    | some r => rfl
  have hg : ∀ t, fm_ac rh M' a t = fm_ac rh M a t := by
    intro t
    unfold fm_ac
    split <;> simp [h1, h2]
  cases y with
  | inl q => simp only [fm_e, hf]
  | inr q => simp only [fm_e, hg]
theorem fm_w_set {sh : List fm_S} {rh : Nat → Nat} {kA : Nat → ClassId} {M M' : fm_M} {k : Nat} {x : fm_S} {z : Nat × va_E} (h : sh[k]? = some x) (hz : fm_e rh kA M' k x = z) (ho : ∀ a, a ≠ k → M'.1 a = M.1 a ∧ M'.2 a = M.2 a) : (fm_w sh rh kA M).set k z = fm_w sh rh kA M' := by
  apply List.ext_getElem?
  intro i
  by_cases hi : i = k
  · subst hi
    have hlt : i < (fm_w sh rh kA M).length := by
      have := (List.getElem?_eq_some_iff.mp h).1
      unfold fm_w
      rw [List.length_mapIdx]
      exact this
    rw [List.getElem?_set_self hlt, fm_w_get h, hz]
  · rw [List.getElem?_set_ne (Ne.symm hi)]
    unfold fm_w
    rw [List.getElem?_mapIdx, List.getElem?_mapIdx]
    cases sh[i]? with
    | none => rfl
    | some y => rw [Option.map_some, Option.map_some, fm_e_ne (ho i hi).1 (ho i hi).2]
def fm_Dd (sh : List fm_S) (rh : Nat → Nat) (A : Nat → Prop) : Prop := (∀ (i j : Nat) (x y : fm_S), sh[i]? = some x → sh[j]? = some y → rh i = rh j → i = j) ∧ ∀ (i : Nat) (x : fm_S), sh[i]? = some x → A (rh i)
theorem fm_Dd.d {sh : List fm_S} {rh : Nat → Nat} {A : Nat → Prop} (h : fm_Dd sh rh A) (kA : Nat → ClassId) (M : fm_M) : va_D A (fm_w sh rh kA M) := by
  refine ⟨fun i j p q hp hq he => ?_, fun k q hq => ?_⟩
  · obtain ⟨x, hx, ex⟩ := fm_w_inv hp
    obtain ⟨y, hy, ey⟩ := fm_w_inv hq
    exact h.1 i j x y hx hy (by rw [← ex, ← ey]; exact he)
  · obtain ⟨x, hx, ex⟩ := fm_w_inv hq
    rw [ex]
    exact h.2 k x hx
def fm_Ad (sh : List fm_S) (rh : Nat → Nat) (sz : Nat) : Nat → Prop := fun q => (∃ (i : Nat) (x : fm_S), sh[i]? = some x ∧ q = rh i) ∨ sz ≤ q
/-- the context of a method's body: program, launch, environment, room, entry state, method, arguments, frames below, method, code; the cells' addresses, the arrays' classes, the classes, the cells of ours -/
abbrev fm_X : Type := Program × Launch × Env × Room × State × MethodId × Array Value × List Frame × Method × Code × (Nat → Nat) × (Nat → ClassId) × va_G × (Nat → Prop)
abbrev fm_p (X : fm_X) : Program := X.1
abbrev fm_l (X : fm_X) : Launch := X.2.1
abbrev fm_en (X : fm_X) : Env := X.2.2.1
abbrev fm_R (X : fm_X) : Room := X.2.2.2.1
abbrev fm_s (X : fm_X) : State := X.2.2.2.2.1
abbrev fm_m (X : fm_X) : MethodId := X.2.2.2.2.2.1
abbrev fm_ar (X : fm_X) : Array Value := X.2.2.2.2.2.2.1
abbrev fm_bl (X : fm_X) : List Frame := X.2.2.2.2.2.2.2.1
abbrev fm_me (X : fm_X) : Method := X.2.2.2.2.2.2.2.2.1
abbrev fm_c (X : fm_X) : Code := X.2.2.2.2.2.2.2.2.2.1
abbrev fm_rh (X : fm_X) : Nat → Nat := X.2.2.2.2.2.2.2.2.2.2.1
abbrev fm_kA (X : fm_X) : Nat → ClassId := X.2.2.2.2.2.2.2.2.2.2.2.1
abbrev fm_Dg (X : fm_X) : va_G := X.2.2.2.2.2.2.2.2.2.2.2.2.1
abbrev fm_A (X : fm_X) : Nat → Prop := X.2.2.2.2.2.2.2.2.2.2.2.2.2
/-- what a contract is said of: launch, addresses, arrays' classes, classes -/
abbrev fm_E : Type := Launch × (Nat → Nat) × (Nat → ClassId) × va_G
abbrev fm_EX (X : fm_X) : fm_E := (fm_l X, fm_rh X, fm_kA X, fm_Dg X)
def fm_tb : List Cond := lw_tbl.filter goodWord
abbrev fm_ws (y : MethodName) (cc : ByteArray) (n : Nat) (ret : Option FieldType) : List Cond := .code y cc n ret :: fm_tb
def fm_nw : List Cond := [.methodLinkNest RX0 44 yX8_says "FaultGraph", .methodLinkNest RX2 23 yX8_says "FaultGraph"]
def fm_PT (j : Nat) : Int64 := match j with
  | 0 => -6148914691236517206
  | 1 => -3689348814741910324
  | 2 => -1085102592571150096
  | 3 => -71777214294589696
  | 4 => -281470681808896
  | _ => -4294967296
/-- what the statics hold, and the nest mates' links -/
def fm_G (A : Nat → Prop) (U : State) (H : Heap) : Prop := (∃ t : Nat, va_Z "FaultGraph$Plant" "PART_TABLES" "[J" (.ref t) A U H ∧ va_T .long t 6 (fun j => .long (fm_PT j)) A U H) ∧ va_Nw (.methodLinkNest RX0 44 yX8_says "FaultGraph") U ∧ va_Nw (.methodLinkNest RX2 23 yX8_says "FaultGraph") U
theorem fm_G.kept {A : Nat → Prop} {U : State} {H H1 : Heap} (h : fm_G A U H) (hq : ∀ a : Nat, a < H.size → ¬ A a → H1[a]? = H[a]?) : fm_G A U H1 := by
  obtain ⟨⟨t, h1, h2⟩, h3⟩ := h
  exact ⟨⟨t, h1.kept hq, h2.kept hq⟩, h3⟩
theorem fm_G.narrow {A B : Nat → Prop} {U : State} {H : Heap} (h : fm_G A U H) (hAB : ∀ q, B q → A q) : fm_G B U H := by
  obtain ⟨⟨t, h1, h2⟩, h3⟩ := h
  exact ⟨⟨t, h1.narrow hAB, h2.narrow hAB⟩, h3⟩
theorem fm_G.warm {A : Nat → Prop} {s U : State} {H : Heap} (hW : s.WarmedH U.vm) (h : fm_G A s H) : fm_G A U H := by
  obtain ⟨⟨t, h1, h2⟩, h3, h4⟩ := h
  exact ⟨⟨t, h1.moved hW.alike, h2.moved hW.alike⟩, va_Nw.warmM hW h3, va_Nw.warmM hW h4⟩
theorem fm_G.same {A : Nat → Prop} {u U : State} {H : Heap} (hvm : u.vm = U.vm) (h : fm_G A u H) : fm_G A U H := by
  obtain ⟨⟨t, h1, h2⟩, h3, h4⟩ := h
  have ha : u.vm.Alike U.vm := by rw [hvm]; exact Vm.Alike.refl U.vm
  exact ⟨⟨t, h1.moved ha, h2.moved ha⟩, h3.same rfl hvm, h4.same rfl hvm⟩
/-- the body's facts -/
def fm_B (sh : List fm_S) (X : fm_X) (cc : ByteArray) (nL : Nat) (own : String) (ret : Option FieldType) : Prop :=
  (fm_p X).tables.exec = Jvm.exec ∧ (fm_c X).code = cc ∧ (fm_c X).maxLocals = nL ∧ (fm_s X).vm.findClass own = some (fm_m X).cls ∧ (∀ w ∈ fm_tb, w.before (fm_ar X) (fm_s X) = true) ∧ (fm_me X).sig.returnType = ret ∧ (fm_me X).locks = false ∧ va_K (fm_Dg X) vwCl (fm_tys (fm_kA X)) (fm_s X) ∧ fm_Dd sh (fm_rh X) (fm_A X) ∧ fm_G (fm_A X) (fm_s X) (fm_s X).heap ∧ (∀ q, (fm_s X).heap.size ≤ q → fm_A X q)
def fm_lv (ls : Array Slot) (nL : Nat) (lv : List (Option Value)) : Prop := lv_wf ls ∧ ls.size = nL ∧ ∀ (i : Nat) (v : Value), lv[i]? = some (some v) → ls[i]? = some (.val v)
/-- the machine, at pc with these locals, this stack and this memory, comes to Q -/
def fm_W (sh : List fm_S) (X : fm_X) (nL : Nat) (pc : Nat) (lv : List (Option Value)) (st : List Value) (M : fm_M) (Q : State → Prop) : Prop :=
  ∀ (H : Heap) (locs : List Loc), va_P (fm_Dg X) vwCl (fm_w sh (fm_rh X) (fm_kA X) M) H → va_S (fm_A X) (fm_s X).heap H locs → ∀ ls : Array Slot, fm_lv ls nL lv → W (fm_p X) (fm_l X) (fm_en X) (fm_R X) (fm_s X) (fm_m X) (fm_ar X) (fm_bl X) (fm_me X) (fm_c X) H locs 0 0 Q (F0 (fm_m X) pc ls st)
def fm_rm (h : Nat) : Room := { frames := h, cells := 0, slots := 0, locals := 64 * h }
def fm_Qc (sh : List fm_S) (E : fm_E) (A : Nat → Prop) (post : Option Value → fm_M → Prop) : Array Value → State → Outcome → State → Prop := fun _ st oc t =>
  (∃ (r : Option Value) (M : fm_M), oc = .returned r ∧ post r M ∧ va_P E.2.2.2 vwCl (fm_w sh E.2.1 E.2.2.1 M) t.heap) ∧ va_F A st t
def fm_Q (sh : List fm_S) (X : fm_X) (post : Option Value → fm_M → Prop) : State → Prop := MQ (fm_bl X) (fm_Qc sh (fm_EX X) (fm_A X) post) (fm_ar X) (fm_s X) 0 0 (fm_A X)
def fm_Pc (sh : List fm_S) (E : fm_E) (av : List Value) (M : fm_M) (sz : Nat) : Array Value → State → Prop := va_Pc av (fun U => U.heap.size = sz ∧ va_P E.2.2.2 vwCl (fm_w sh E.2.1 E.2.2.1 M) U.heap ∧ va_K E.2.2.2 vwCl (fm_tys E.2.2.1) U ∧ fm_Dd sh E.2.1 (fun _ => True) ∧ fm_G (fm_Ad sh E.2.1 sz) U U.heap)
/-- a method's contract: name, bytes, locals, return type; height; arguments; memory; what holds behind it -/
def fm_C (sh : List fm_S) (E : fm_E) (mt : MethodName × ByteArray × Nat × Option FieldType) (h : Nat) (av : List Value) (M : fm_M) (post : Option Value → fm_M → Prop) : Prop :=
  ∀ sz : Nat, Met E.1 mt.1 (fm_ws mt.1 mt.2.1 mt.2.2.1 mt.2.2.2) (fm_rm h) (fm_Pc sh E av M sz) (fm_Qc sh E (fm_Ad sh E.2.1 sz) post) 0 0 (fm_Ad sh E.2.1 sz)
theorem fm_C.mono {sh : List fm_S} {E : fm_E} {mt : MethodName × ByteArray × Nat × Option FieldType} {h : Nat} {av : List Value} {M : fm_M} {post post' : Option Value → fm_M → Prop} (hC : fm_C sh E mt h av M post) (hp : ∀ r M', post r M' → post' r M') : fm_C sh E mt h av M post' := by
  intro sz
  have h1 := hC sz
  intro p e ha hc hk s m args below hf happ hP hK
  obtain ⟨k, o, a1, a2, a3, ⟨⟨⟨r, M', b1, b2, b3⟩, b4⟩, b5⟩⟩ := h1 p e ha hc hk s m args below hf happ hP hK
  exact ⟨k, o, a1, a2, a3, ⟨⟨⟨r, M', b1, hp r M' b2, b3⟩, b4⟩, b5⟩⟩
def fm_l0 : List Value → List (Option Value)
  | [] => []
  | v :: vs => if v.category = 2 then some v :: none :: fm_l0 vs else some v :: fm_l0 vs
theorem fm_l0_in (vs : List Value) : ∀ (k i : Nat) (v : Value), (fm_l0 vs)[i]? = some (some v) → (k + i, v) ∈ lv_args k vs := by
  induction vs with
  | nil => intro k i v h; simp [fm_l0] at h
  | cons w vs ih =>
    intro k i v h
    unfold fm_l0 at h
    by_cases hc : w.category = 2
    · rw [if_pos hc] at h
      simp only [lv_args, if_pos hc]
      match i, h with
      | 0, h => simp at h; subst h; exact List.mem_cons_self
      | 1, h => simp at h
      | i + 2, h =>
        have h2 := ih (k + 2) i v (by simpa using h)
        have : k + (i + 2) = k + 2 + i := by omega
        rw [this]
        exact List.mem_cons_of_mem _ h2
    · rw [if_neg hc] at h
      simp only [lv_args, if_neg hc]
      match i, h with
      | 0, h => simp at h; subst h; exact List.mem_cons_self
      | i + 1, h =>
        have h2 := ih (k + 1) i v (by simpa using h)
        have : k + (i + 1) = k + 1 + i := by omega
        rw [this]
        exact List.mem_cons_of_mem _ h2
theorem fm_C.of {sh : List fm_S} {E : fm_E} {y : MethodName} {cc : ByteArray} {n : Nat} {ret : Option FieldType} {h : Nat} {av : List Value} {M : fm_M} {post : Option Value → fm_M → Prop} (hy : plainName y.cls = true) (hl : (lg_sl av).length ≤ n)
    (body : ∀ X : fm_X, fm_EX X = E → fm_R X = fm_rm h → fm_B sh X cc n y.cls ret → fm_W sh X n 0 (fm_l0 av) [] M (fm_Q sh X post)) : fm_C sh E (y, cc, n, ret) h av M post := by
  intro sz
  refine Met.ofW (cc := cc) (maxL := n) (ret := ret) hy rfl ?_
  intro p e s m args below meth c s₁ B hml hv
  obtain ⟨rfl, hsz, hP, hK, hD0, hG⟩ := hv
  have hts := atoms_spec (ws := fm_ws y cc n ret) B.pre
  have hown : s.vm.findClass y.cls = some m.cls := findClass_of_methodNamed B.named
  subst hsz
  have hD : fm_Dd sh E.2.1 (fm_Ad sh E.2.1 s.heap.size) := ⟨hD0.1, fun i x hx => Or.inl ⟨i, x, hx, rfl⟩⟩
  have hl0 := lv_entry av (n := n) hl
  rw [lg_entry_eq]
  generalize (lg_sl av ++ List.replicate (n - (lg_sl av).length) Slot.unset).toArray = ls at hl0 ⊢
  have hb := body (p, E.1, e, fm_rm h, s, m, av.toArray, below, meth, c, E.2.1, E.2.2.1, E.2.2.2, fm_Ad sh E.2.1 s.heap.size) rfl rfl
    ⟨B.exec, B.bytes, hml, hown, fun w hw => hts w (List.mem_cons_of_mem _ hw), B.returns, B.notSynchronized, hK, hD, hG, fun q hq => Or.inr hq⟩
  exact hb s.heap [] hP va_S.rf ls ⟨hl0.2.1, hl0.1, fun i v hi => hl0.2.2 (i, v) (by have := fm_l0_in av 0 i v hi; simpa using this)⟩
end
section
/-! ===== rows: one instruction each, over fm_W ===== -/
section FMR
variable {sh : List fm_S} {X : fm_X} {cc : ByteArray} {nL : Nat} {own : String} {ret : Option FieldType} {pc : Nat} {lv : List (Option Value)} {st : List Value} {M : fm_M} {Q : State → Prop}
theorem fm_B.x (h : fm_B sh X cc nL own ret) : (fm_p X).tables.exec = Jvm.exec := h.1
theorem fm_B.b (h : fm_B sh X cc nL own ret) : (fm_c X).code = cc := h.2.1
theorem fm_B.ml (h : fm_B sh X cc nL own ret) : (fm_c X).maxLocals = nL := h.2.2.1
theorem fm_B.ow (h : fm_B sh X cc nL own ret) : (fm_s X).vm.findClass own = some (fm_m X).cls := h.2.2.2.1
theorem fm_B.tb (h : fm_B sh X cc nL own ret) : ∀ w ∈ fm_tb, w.before (fm_ar X) (fm_s X) = true := h.2.2.2.2.1
theorem fm_B.re (h : fm_B sh X cc nL own ret) : (fm_me X).sig.returnType = ret := h.2.2.2.2.2.1
theorem fm_B.lk (h : fm_B sh X cc nL own ret) : (fm_me X).locks = false := h.2.2.2.2.2.2.1
theorem fm_B.K (h : fm_B sh X cc nL own ret) : va_K (fm_Dg X) vwCl (fm_tys (fm_kA X)) (fm_s X) := h.2.2.2.2.2.2.2.1
theorem fm_B.D (h : fm_B sh X cc nL own ret) : fm_Dd sh (fm_rh X) (fm_A X) := h.2.2.2.2.2.2.2.2.1
theorem fm_B.G (h : fm_B sh X cc nL own ret) : fm_G (fm_A X) (fm_s X) (fm_s X).heap := h.2.2.2.2.2.2.2.2.2.1
theorem fm_B.A (h : fm_B sh X cc nL own ret) : ∀ q, (fm_s X).heap.size ≤ q → fm_A X q := h.2.2.2.2.2.2.2.2.2.2

theorem fr_iconst (hB : fm_B sh X cc nL own ret) {n : Int} {v : Int32} (hd : decode cc pc = .ok (.iconst n, 1)) (hv : Int32.ofInt n = v) (k : fm_W sh X nL (pc + 1) lv (.int v :: st) M Q) : fm_W sh X nL pc lv (st) M Q := fun H locs hP hS ls hl => lv_iconst hB.x hB.b hd hv (k H locs hP hS ls hl)
theorem fr_bipush (hB : fm_B sh X cc nL own ret) {n : Int} {v : Int32} (hd : decode cc pc = .ok (.bipush n, 2)) (hv : (Int8.ofInt n).toInt32 = v) (k : fm_W sh X nL (pc + 2) lv (.int v :: st) M Q) : fm_W sh X nL pc lv (st) M Q := fun H locs hP hS ls hl => lv_bipush hB.x hB.b hd hv (k H locs hP hS ls hl)
theorem fr_sipush (hB : fm_B sh X cc nL own ret) {n : Int} {v : Int32} (hd : decode cc pc = .ok (.sipush n, 3)) (hv : (Int16.ofInt n).toInt32 = v) (k : fm_W sh X nL (pc + 3) lv (.int v :: st) M Q) : fm_W sh X nL pc lv (st) M Q := fun H locs hP hS ls hl => lv_sipush hB.x hB.b hd hv (k H locs hP hS ls hl)
theorem fr_lconst (hB : fm_B sh X cc nL own ret) {n : Fin 2} {v : Int64} (hd : decode cc pc = .ok (.lconst n, 1)) (hv : Int64.ofNat (n : Nat) = v) (k : fm_W sh X nL (pc + 1) lv (.long v :: st) M Q) : fm_W sh X nL pc lv (st) M Q := fun H locs hP hS ls hl => lv_lconst hB.x hB.b hd hv (k H locs hP hS ls hl)
theorem fr_iload_n (hB : fm_B sh X cc nL own ret) {kk : Fin 4} {i : Nat} {x : Int32} (hd : decode cc pc = .ok (.iload_n kk, 1)) (hi : (kk : Nat) = i) (hx : lv[i]? = some (some (.int x))) (k : fm_W sh X nL (pc + 1) lv (.int x :: st) M Q) : fm_W sh X nL pc lv (st) M Q := fun H locs hP hS ls hl => lv_iload_n hB.x hB.b hd hi (hl.2.2 _ _ hx) (k H locs hP hS ls hl)
theorem fr_iload (hB : fm_B sh X cc nL own ret) {i : Nat} {x : Int32} (hd : decode cc pc = .ok (.iload i, 2)) (hx : lv[i]? = some (some (.int x))) (k : fm_W sh X nL (pc + 2) lv (.int x :: st) M Q) : fm_W sh X nL pc lv (st) M Q := fun H locs hP hS ls hl => lv_iload hB.x hB.b hd (hl.2.2 _ _ hx) (k H locs hP hS ls hl)
theorem fr_lload_n (hB : fm_B sh X cc nL own ret) {kk : Fin 4} {i : Nat} {x : Int64} (hd : decode cc pc = .ok (.lload_n kk, 1)) (hi : (kk : Nat) = i) (hx : lv[i]? = some (some (.long x))) (k : fm_W sh X nL (pc + 1) lv (.long x :: st) M Q) : fm_W sh X nL pc lv (st) M Q := fun H locs hP hS ls hl => lv_lload_n hB.x hB.b hd hi (hl.2.2 _ _ hx) (k H locs hP hS ls hl)
theorem fr_lload (hB : fm_B sh X cc nL own ret) {i : Nat} {x : Int64} (hd : decode cc pc = .ok (.lload i, 2)) (hx : lv[i]? = some (some (.long x))) (k : fm_W sh X nL (pc + 2) lv (.long x :: st) M Q) : fm_W sh X nL pc lv (st) M Q := fun H locs hP hS ls hl => lv_lload hB.x hB.b hd (hl.2.2 _ _ hx) (k H locs hP hS ls hl)
theorem fr_aload_n (hB : fm_B sh X cc nL own ret) {kk : Fin 4} {i : Nat} {x : Nat} (hd : decode cc pc = .ok (.aload_n kk, 1)) (hi : (kk : Nat) = i) (hx : lv[i]? = some (some (.ref x))) (k : fm_W sh X nL (pc + 1) lv (.ref x :: st) M Q) : fm_W sh X nL pc lv (st) M Q := fun H locs hP hS ls hl => lv_aload_n hB.x hB.b hd hi (hl.2.2 _ _ hx) (k H locs hP hS ls hl)
theorem fr_aload (hB : fm_B sh X cc nL own ret) {i : Nat} {x : Nat} (hd : decode cc pc = .ok (.aload i, 2)) (hx : lv[i]? = some (some (.ref x))) (k : fm_W sh X nL (pc + 2) lv (.ref x :: st) M Q) : fm_W sh X nL pc lv (st) M Q := fun H locs hP hS ls hl => lv_aload hB.x hB.b hd (hl.2.2 _ _ hx) (k H locs hP hS ls hl)
theorem fr_aload_nN (hB : fm_B sh X cc nL own ret) {kk : Fin 4} {i : Nat} (hd : decode cc pc = .ok (.aload_n kk, 1)) (hi : (kk : Nat) = i) (hx : lv[i]? = some (some .null)) (k : fm_W sh X nL (pc + 1) lv (.null :: st) M Q) : fm_W sh X nL pc lv (st) M Q := fun H locs hP hS ls hl => lv_aload_nN hB.x hB.b hd hi (hl.2.2 _ _ hx) (k H locs hP hS ls hl)
theorem fr_aloadN (hB : fm_B sh X cc nL own ret) {i : Nat} (hd : decode cc pc = .ok (.aload i, 2)) (hx : lv[i]? = some (some .null)) (k : fm_W sh X nL (pc + 2) lv (.null :: st) M Q) : fm_W sh X nL pc lv (st) M Q := fun H locs hP hS ls hl => lv_aloadN hB.x hB.b hd (hl.2.2 _ _ hx) (k H locs hP hS ls hl)
def fm_pairs (lv : List (Option Value)) : List (Nat × Value) := lv.zipIdx.filterMap (fun q => q.1.map (fun v => (q.2, v)))
theorem fm_pairs_in {lv : List (Option Value)} {i : Nat} {v : Value} : (i, v) ∈ fm_pairs lv ↔ lv[i]? = some (some v) := by
  unfold fm_pairs
  rw [List.mem_filterMap]
  constructor
  · rintro ⟨⟨o, j⟩, h1, h2⟩
    have h3 := List.mem_zipIdx_iff_getElem?.mp h1
    cases o with
    | none => simp at h2
    | some w =>
      simp only [Option.map_some, Option.some.injEq, Prod.mk.injEq] at h2
      obtain ⟨rfl, rfl⟩ := h2
      exact h3
  · intro h
    exact ⟨(some v, i), List.mem_zipIdx_iff_getElem?.mpr h, rfl⟩
theorem fm_has {ls : Array Slot} {nL : Nat} {lv : List (Option Value)} (h : fm_lv ls nL lv) : lv_has ls nL (fm_pairs lv) := ⟨h.2.1, h.1, fun q hq => h.2.2 q.1 q.2 (fm_pairs_in.mp hq)⟩
def fm_ok (lv : List (Option Value)) (i : Nat) : Bool := match i with
  | 0 => true
  | j + 1 => match lv[j]? with
    | some (some v) => v.category == 1
    | _ => true
theorem fm_ok_of {lv : List (Option Value)} {i j : Nat} {v : Value} (h : fm_ok lv i = true) (hj : lv[j]? = some (some v)) (e : j + 1 = i) : v.category = 1 := by
  subst e
  simp only [fm_ok, hj, beq_iff_eq] at h
  exact h
theorem fm_lv_1 {ls : Array Slot} {nL : Nat} {lv : List (Option Value)} {i : Nat} {v : Value} (hk : fm_ok lv i = true) (h : lv_has ls nL ((i, v) :: (fm_pairs lv).filter (fun q => !(q.1 == i) && !(q.1 + 1 == i && q.2.category == 2)))) : fm_lv ls nL (lv.set i (some v)) := by
  refine ⟨h.2.1, h.1, fun j w hj => ?_⟩
  rw [List.getElem?_set] at hj
  by_cases e : i = j
  · subst e
    rw [if_pos rfl] at hj
    split at hj
    · cases hj
      exact h.2.2 (i, v) List.mem_cons_self
    · cases hj
  · rw [if_neg e] at hj
    refine h.2.2 (j, w) (List.mem_cons_of_mem _ (List.mem_filter.mpr ⟨fm_pairs_in.mpr hj, ?_⟩))
    have h1 : ¬ (j = i) := fun q => e q.symm
    by_cases e2 : j + 1 = i
    · have := fm_ok_of hk hj e2
      simp [h1, this]
    · simp [h1, e2]
theorem fm_lv_2 {ls : Array Slot} {nL : Nat} {lv : List (Option Value)} {i : Nat} {v : Value} (hk : fm_ok lv i = true) (h : lv_has ls nL ((i, v) :: (fm_pairs lv).filter (fun q => !(q.1 == i) && (!(q.1 == i + 1) && !(q.1 + 1 == i && q.2.category == 2))))) : fm_lv ls nL ((lv.set i (some v)).set (i + 1) none) := by
  refine ⟨h.2.1, h.1, fun j w hj => ?_⟩
  rw [List.getElem?_set] at hj
  by_cases e3 : i + 1 = j
  · rw [if_pos e3] at hj
    split at hj <;> cases hj
  · rw [if_neg e3, List.getElem?_set] at hj
    by_cases e : i = j
    · subst e
      rw [if_pos rfl] at hj
      split at hj
      · cases hj
        exact h.2.2 (i, v) List.mem_cons_self
      · cases hj
    · rw [if_neg e] at hj
      refine h.2.2 (j, w) (List.mem_cons_of_mem _ (List.mem_filter.mpr ⟨fm_pairs_in.mpr hj, ?_⟩))
      have h1 : ¬ (j = i) := fun q => e q.symm
      have h2 : ¬ (j = i + 1) := fun q => e3 q.symm
      by_cases e2 : j + 1 = i
      · have := fm_ok_of hk hj e2
        simp [h1, h2, this]
      · simp [h1, h2, e2]
theorem fr_forget (i : Nat) (k : fm_W sh X nL pc (lv.set i none) st M Q) : fm_W sh X nL pc lv st M Q := fun H locs hP hS ls hl => k H locs hP hS ls ⟨hl.1, hl.2.1, fun j w hj => by
  rw [List.getElem?_set] at hj
  by_cases e : i = j
  · rw [if_pos e] at hj
    split at hj <;> cases hj
  · rw [if_neg e] at hj
    exact hl.2.2 j w hj⟩
/-- locals of which more is known may stand where fewer are asked -/
theorem fr_locals {lv' : List (Option Value)} (h : ∀ (i : Nat) (v : Value), lv'[i]? = some (some v) → lv[i]? = some (some v)) (k : fm_W sh X nL pc lv' st M Q) : fm_W sh X nL pc lv st M Q := fun H locs hP hS ls hl => k H locs hP hS ls ⟨hl.1, hl.2.1, fun j w hj => hl.2.2 j w (h j w hj)⟩
/-- may the first list stand where the second is asked: place by place, none asks nothing -/
def fm_sub : List (Option Value) → List (Option Value) → Prop
  | _, [] => True
  | [], none :: b => fm_sub [] b
  | [], some _ :: _ => False
  | _ :: a, none :: b => fm_sub a b
  | x :: a, some v :: b => x = some v ∧ fm_sub a b
theorem fm_sub_at : ∀ (a b : List (Option Value)), fm_sub a b → ∀ (i : Nat) (v : Value), b[i]? = some (some v) → a[i]? = some (some v)
  | a, [], _, i, v, h => by simp at h
  | [], none :: b, hs, i, v, h => by
    match i, h with
    | 0, h => simp at h
    | i + 1, h => have := fm_sub_at [] b hs i v (by simpa using h); simp at this
  | [], some _ :: _, hs, i, v, h => by cases hs
  | x :: a, none :: b, hs, i, v, h => by
    match i, h with
    | 0, h => simp at h
    | i + 1, h => exact (by simpa using fm_sub_at a b hs i v (by simpa using h))
  | x :: a, some w :: b, hs, i, v, h => by
    match i, h with
    | 0, h => simp at h; subst h; simp [hs.1]
    | i + 1, h => exact (by simpa using fm_sub_at a b hs.2 i v (by simpa using h))
theorem fr_lv (lv' : List (Option Value)) (h : fm_sub lv lv') (k : fm_W sh X nL pc lv' st M Q) : fm_W sh X nL pc lv st M Q := fr_locals (fm_sub_at lv lv' h) k
theorem fr_topi {x : Int32} (k : ∀ y : Int32, y = x → fm_W sh X nL pc lv (.int y :: st) M Q) : fm_W sh X nL pc lv (.int x :: st) M Q := k x rfl
theorem fr_topl {x : Int64} (k : ∀ y : Int64, y = x → fm_W sh X nL pc lv (.long y :: st) M Q) : fm_W sh X nL pc lv (.long x :: st) M Q := k x rfl
theorem fr_eqi {x : Int32} (y : Int32) (h : x = y) (k : fm_W sh X nL pc lv (.int y :: st) M Q) : fm_W sh X nL pc lv (.int x :: st) M Q := by rw [h]; exact k
theorem fr_eql {x : Int64} (y : Int64) (h : x = y) (k : fm_W sh X nL pc lv (.long y :: st) M Q) : fm_W sh X nL pc lv (.long x :: st) M Q := by rw [h]; exact k
theorem fr_mem (M' : fm_M) (h : M = M') (k : fm_W sh X nL pc lv st M' Q) : fm_W sh X nL pc lv st M Q := by rw [h]; exact k
theorem fr_istore_n (hB : fm_B sh X cc nL own ret) {kk : Fin 4} {i : Nat} {x : Int32} (hd : decode cc pc = .ok (.istore_n kk, 1)) (hi : (kk : Nat) = i) (hn : i < nL) (hk : fm_ok lv i = true) (k : fm_W sh X nL (pc + 1) (lv.set i (some (.int x))) st M Q) : fm_W sh X nL pc lv (.int x :: st) M Q := fun H locs hP hS ls hl => lv_istore_n hB.x hB.b hd hi (fm_has hl) hn rfl (fun ls' h' => k H locs hP hS ls' (fm_lv_1 hk h'))
theorem fr_istore (hB : fm_B sh X cc nL own ret) {i : Nat} {x : Int32} (hd : decode cc pc = .ok (.istore i, 2)) (hn : i < nL) (hk : fm_ok lv i = true) (k : fm_W sh X nL (pc + 2) (lv.set i (some (.int x))) st M Q) : fm_W sh X nL pc lv (.int x :: st) M Q := fun H locs hP hS ls hl => lv_istore hB.x hB.b hd (fm_has hl) hn rfl (fun ls' h' => k H locs hP hS ls' (fm_lv_1 hk h'))
theorem fr_lstore_n (hB : fm_B sh X cc nL own ret) {kk : Fin 4} {i : Nat} {x : Int64} (hd : decode cc pc = .ok (.lstore_n kk, 1)) (hi : (kk : Nat) = i) (hn : i + 1 < nL) (hk : fm_ok lv i = true) (k : fm_W sh X nL (pc + 1) ((lv.set i (some (.long x))).set (i + 1) none) st M Q) : fm_W sh X nL pc lv (.long x :: st) M Q := fun H locs hP hS ls hl => lv_lstore_n hB.x hB.b hd hi (fm_has hl) hn rfl (fun ls' h' => k H locs hP hS ls' (fm_lv_2 hk h'))
theorem fr_lstore (hB : fm_B sh X cc nL own ret) {i : Nat} {x : Int64} (hd : decode cc pc = .ok (.lstore i, 2)) (hn : i + 1 < nL) (hk : fm_ok lv i = true) (k : fm_W sh X nL (pc + 2) ((lv.set i (some (.long x))).set (i + 1) none) st M Q) : fm_W sh X nL pc lv (.long x :: st) M Q := fun H locs hP hS ls hl => lv_lstore hB.x hB.b hd (fm_has hl) hn rfl (fun ls' h' => k H locs hP hS ls' (fm_lv_2 hk h'))
theorem fr_astore_n (hB : fm_B sh X cc nL own ret) {kk : Fin 4} {i : Nat} {x : Nat} (hd : decode cc pc = .ok (.astore_n kk, 1)) (hi : (kk : Nat) = i) (hn : i < nL) (hk : fm_ok lv i = true) (k : fm_W sh X nL (pc + 1) (lv.set i (some (.ref x))) st M Q) : fm_W sh X nL pc lv (.ref x :: st) M Q := fun H locs hP hS ls hl => lv_astore_n hB.x hB.b hd hi (fm_has hl) hn rfl (fun ls' h' => k H locs hP hS ls' (fm_lv_1 hk h'))
theorem fr_astore (hB : fm_B sh X cc nL own ret) {i : Nat} {x : Nat} (hd : decode cc pc = .ok (.astore i, 2)) (hn : i < nL) (hk : fm_ok lv i = true) (k : fm_W sh X nL (pc + 2) (lv.set i (some (.ref x))) st M Q) : fm_W sh X nL pc lv (.ref x :: st) M Q := fun H locs hP hS ls hl => lv_astore hB.x hB.b hd (fm_has hl) hn rfl (fun ls' h' => k H locs hP hS ls' (fm_lv_1 hk h'))
theorem fr_astore_nN (hB : fm_B sh X cc nL own ret) {kk : Fin 4} {i : Nat} (hd : decode cc pc = .ok (.astore_n kk, 1)) (hi : (kk : Nat) = i) (hn : i < nL) (hk : fm_ok lv i = true) (k : fm_W sh X nL (pc + 1) (lv.set i (some .null)) st M Q) : fm_W sh X nL pc lv (.null :: st) M Q := fun H locs hP hS ls hl => lv_astore_nN hB.x hB.b hd hi (fm_has hl) hn rfl (fun ls' h' => k H locs hP hS ls' (fm_lv_1 hk h'))
theorem fr_astoreN (hB : fm_B sh X cc nL own ret) {i : Nat} (hd : decode cc pc = .ok (.astore i, 2)) (hn : i < nL) (hk : fm_ok lv i = true) (k : fm_W sh X nL (pc + 2) (lv.set i (some .null)) st M Q) : fm_W sh X nL pc lv (.null :: st) M Q := fun H locs hP hS ls hl => lv_astoreN hB.x hB.b hd (fm_has hl) hn rfl (fun ls' h' => k H locs hP hS ls' (fm_lv_1 hk h'))
theorem fr_iinc (hB : fm_B sh X cc nL own ret) {i : Nat} {n : Int} {x v : Int32} (hd : decode cc pc = .ok (.iinc i n, 3)) (hx : lv[i]? = some (some (.int x))) (hv : x + Int32.ofInt n = v) (hn : i < nL) (hk : fm_ok lv i = true) (k : fm_W sh X nL (pc + 3) (lv.set i (some (.int v))) st M Q) : fm_W sh X nL pc lv st M Q := fun H locs hP hS ls hl => by
  obtain ⟨q, hq⟩ := List.mem_iff_getElem?.mp (fm_pairs_in.mpr hx)
  exact lv_iinc hB.x hB.b hd (fm_has hl) hq hv hn rfl (fun ls' h' => k H locs hP hS ls' (fm_lv_1 hk h'))
theorem fr_iadd (hB : fm_B sh X cc nL own ret) {x y : Int32} (hd : decode cc pc = .ok (.iadd, 1))  (k : fm_W sh X nL (pc + 1) lv (.int (x + y) :: st) M Q) : fm_W sh X nL pc lv (.int y :: .int x :: st) M Q := fun H locs hP hS ls hl => lv_iadd hB.x hB.b hd  (k H locs hP hS ls hl)
theorem fr_isub (hB : fm_B sh X cc nL own ret) {x y : Int32} (hd : decode cc pc = .ok (.isub, 1))  (k : fm_W sh X nL (pc + 1) lv (.int (x - y) :: st) M Q) : fm_W sh X nL pc lv (.int y :: .int x :: st) M Q := fun H locs hP hS ls hl => lv_isub hB.x hB.b hd  (k H locs hP hS ls hl)
theorem fr_imul (hB : fm_B sh X cc nL own ret) {x y : Int32} (hd : decode cc pc = .ok (.imul, 1))  (k : fm_W sh X nL (pc + 1) lv (.int (x * y) :: st) M Q) : fm_W sh X nL pc lv (.int y :: .int x :: st) M Q := fun H locs hP hS ls hl => lv_imul hB.x hB.b hd  (k H locs hP hS ls hl)
theorem fr_iand (hB : fm_B sh X cc nL own ret) {x y : Int32} (hd : decode cc pc = .ok (.iand, 1))  (k : fm_W sh X nL (pc + 1) lv (.int (x &&& y) :: st) M Q) : fm_W sh X nL pc lv (.int y :: .int x :: st) M Q := fun H locs hP hS ls hl => lv_iand hB.x hB.b hd  (k H locs hP hS ls hl)
theorem fr_ior (hB : fm_B sh X cc nL own ret) {x y : Int32} (hd : decode cc pc = .ok (.ior, 1))  (k : fm_W sh X nL (pc + 1) lv (.int (x ||| y) :: st) M Q) : fm_W sh X nL pc lv (.int y :: .int x :: st) M Q := fun H locs hP hS ls hl => lv_ior hB.x hB.b hd  (k H locs hP hS ls hl)
theorem fr_ixor (hB : fm_B sh X cc nL own ret) {x y : Int32} (hd : decode cc pc = .ok (.ixor, 1))  (k : fm_W sh X nL (pc + 1) lv (.int (x ^^^ y) :: st) M Q) : fm_W sh X nL pc lv (.int y :: .int x :: st) M Q := fun H locs hP hS ls hl => lv_ixor hB.x hB.b hd  (k H locs hP hS ls hl)
theorem fr_idiv (hB : fm_B sh X cc nL own ret) {x y : Int32} (hd : decode cc pc = .ok (.idiv, 1)) (hne : ¬ y = 0) (k : fm_W sh X nL (pc + 1) lv (.int (x / y) :: st) M Q) : fm_W sh X nL pc lv (.int y :: .int x :: st) M Q := fun H locs hP hS ls hl => lv_idiv hB.x hB.b hd hne (k H locs hP hS ls hl)
theorem fr_irem (hB : fm_B sh X cc nL own ret) {x y : Int32} (hd : decode cc pc = .ok (.irem, 1)) (hne : ¬ y = 0) (k : fm_W sh X nL (pc + 1) lv (.int (x - x / y * y) :: st) M Q) : fm_W sh X nL pc lv (.int y :: .int x :: st) M Q := fun H locs hP hS ls hl => lv_irem hB.x hB.b hd hne (k H locs hP hS ls hl)
theorem fr_ladd (hB : fm_B sh X cc nL own ret) {x y : Int64} (hd : decode cc pc = .ok (.ladd, 1))  (k : fm_W sh X nL (pc + 1) lv (.long (x + y) :: st) M Q) : fm_W sh X nL pc lv (.long y :: .long x :: st) M Q := fun H locs hP hS ls hl => lv_ladd hB.x hB.b hd  (k H locs hP hS ls hl)
theorem fr_lsub (hB : fm_B sh X cc nL own ret) {x y : Int64} (hd : decode cc pc = .ok (.lsub, 1))  (k : fm_W sh X nL (pc + 1) lv (.long (x - y) :: st) M Q) : fm_W sh X nL pc lv (.long y :: .long x :: st) M Q := fun H locs hP hS ls hl => lv_lsub hB.x hB.b hd  (k H locs hP hS ls hl)
theorem fr_lmul (hB : fm_B sh X cc nL own ret) {x y : Int64} (hd : decode cc pc = .ok (.lmul, 1))  (k : fm_W sh X nL (pc + 1) lv (.long (x * y) :: st) M Q) : fm_W sh X nL pc lv (.long y :: .long x :: st) M Q := fun H locs hP hS ls hl => lv_lmul hB.x hB.b hd  (k H locs hP hS ls hl)
theorem fr_land (hB : fm_B sh X cc nL own ret) {x y : Int64} (hd : decode cc pc = .ok (.land, 1))  (k : fm_W sh X nL (pc + 1) lv (.long (x &&& y) :: st) M Q) : fm_W sh X nL pc lv (.long y :: .long x :: st) M Q := fun H locs hP hS ls hl => lv_land hB.x hB.b hd  (k H locs hP hS ls hl)
theorem fr_lor (hB : fm_B sh X cc nL own ret) {x y : Int64} (hd : decode cc pc = .ok (.lor, 1))  (k : fm_W sh X nL (pc + 1) lv (.long (x ||| y) :: st) M Q) : fm_W sh X nL pc lv (.long y :: .long x :: st) M Q := fun H locs hP hS ls hl => lv_lor hB.x hB.b hd  (k H locs hP hS ls hl)
theorem fr_lxor (hB : fm_B sh X cc nL own ret) {x y : Int64} (hd : decode cc pc = .ok (.lxor, 1))  (k : fm_W sh X nL (pc + 1) lv (.long (x ^^^ y) :: st) M Q) : fm_W sh X nL pc lv (.long y :: .long x :: st) M Q := fun H locs hP hS ls hl => lv_lxor hB.x hB.b hd  (k H locs hP hS ls hl)
theorem fr_ldiv (hB : fm_B sh X cc nL own ret) {x y : Int64} (hd : decode cc pc = .ok (.ldiv, 1)) (hne : ¬ y = 0) (k : fm_W sh X nL (pc + 1) lv (.long (x / y) :: st) M Q) : fm_W sh X nL pc lv (.long y :: .long x :: st) M Q := fun H locs hP hS ls hl => lv_ldiv hB.x hB.b hd hne (k H locs hP hS ls hl)
theorem fr_lrem (hB : fm_B sh X cc nL own ret) {x y : Int64} (hd : decode cc pc = .ok (.lrem, 1)) (hne : ¬ y = 0) (k : fm_W sh X nL (pc + 1) lv (.long (x - x / y * y) :: st) M Q) : fm_W sh X nL pc lv (.long y :: .long x :: st) M Q := fun H locs hP hS ls hl => lv_lrem hB.x hB.b hd hne (k H locs hP hS ls hl)
theorem fr_ishl (hB : fm_B sh X cc nL own ret) {x y : Int32} (hd : decode cc pc = .ok (.ishl, 1))  (k : fm_W sh X nL (pc + 1) lv (.int (x <<< (y &&& 31)) :: st) M Q) : fm_W sh X nL pc lv (.int y :: .int x :: st) M Q := fun H locs hP hS ls hl => lv_ishl hB.x hB.b hd  (k H locs hP hS ls hl)
theorem fr_ishr (hB : fm_B sh X cc nL own ret) {x y : Int32} (hd : decode cc pc = .ok (.ishr, 1))  (k : fm_W sh X nL (pc + 1) lv (.int (x >>> (y &&& 31)) :: st) M Q) : fm_W sh X nL pc lv (.int y :: .int x :: st) M Q := fun H locs hP hS ls hl => lv_ishr hB.x hB.b hd  (k H locs hP hS ls hl)
theorem fr_iushr (hB : fm_B sh X cc nL own ret) {x y v : Int32} (hd : decode cc pc = .ok (.iushr, 1)) (hv : (x.toUInt32 >>> (y.toUInt32 &&& Int32.toUInt32 31)).toInt32 = v) (k : fm_W sh X nL (pc + 1) lv (.int v :: st) M Q) : fm_W sh X nL pc lv (.int y :: .int x :: st) M Q := fun H locs hP hS ls hl => lv_iushr hB.x hB.b hd hv (k H locs hP hS ls hl)
theorem fr_lushr (hB : fm_B sh X cc nL own ret) {x v : Int64} {y : Int32} (hd : decode cc pc = .ok (.lushr, 1)) (hv : (x.toUInt64 >>> (y.toInt64.toUInt64 &&& Int64.toUInt64 63)).toInt64 = v) (k : fm_W sh X nL (pc + 1) lv (.long v :: st) M Q) : fm_W sh X nL pc lv (.int y :: .long x :: st) M Q := fun H locs hP hS ls hl => lv_lushr hB.x hB.b hd hv (k H locs hP hS ls hl)
theorem fr_lshl (hB : fm_B sh X cc nL own ret) {x v : Int64} {y : Int32} (hd : decode cc pc = .ok (.lshl, 1)) (hv : x <<< (y.toInt64 &&& 63) = v) (k : fm_W sh X nL (pc + 1) lv (.long v :: st) M Q) : fm_W sh X nL pc lv (.int y :: .long x :: st) M Q := fun H locs hP hS ls hl => lv_lshl hB.x hB.b hd hv (k H locs hP hS ls hl)
theorem fr_i2l (hB : fm_B sh X cc nL own ret) {x : Int32} {v : Int64} (hd : decode cc pc = .ok (.i2l, 1)) (hv : x.toInt64 = v) (k : fm_W sh X nL (pc + 1) lv (.long v :: st) M Q) : fm_W sh X nL pc lv (.int x :: st) M Q := fun H locs hP hS ls hl => lv_i2l hB.x hB.b hd hv (k H locs hP hS ls hl)
theorem fr_l2i (hB : fm_B sh X cc nL own ret) {x : Int64} {v : Int32} (hd : decode cc pc = .ok (.l2i, 1)) (hv : x.toInt32 = v) (k : fm_W sh X nL (pc + 1) lv (.int v :: st) M Q) : fm_W sh X nL pc lv (.long x :: st) M Q := fun H locs hP hS ls hl => lv_l2i hB.x hB.b hd hv (k H locs hP hS ls hl)
theorem fr_i2b (hB : fm_B sh X cc nL own ret) {x v : Int32} (hd : decode cc pc = .ok (.i2b, 1)) (hv : x.toInt8.toInt32 = v) (k : fm_W sh X nL (pc + 1) lv (.int v :: st) M Q) : fm_W sh X nL pc lv (.int x :: st) M Q := fun H locs hP hS ls hl => lv_i2b hB.x hB.b hd hv (k H locs hP hS ls hl)
theorem fr_i2s (hB : fm_B sh X cc nL own ret) {x v : Int32} (hd : decode cc pc = .ok (.i2s, 1)) (hv : x.toInt16.toInt32 = v) (k : fm_W sh X nL (pc + 1) lv (.int v :: st) M Q) : fm_W sh X nL pc lv (.int x :: st) M Q := fun H locs hP hS ls hl => lv_i2s hB.x hB.b hd hv (k H locs hP hS ls hl)
theorem fr_lcmp (hB : fm_B sh X cc nL own ret) {x y : Int64} (hd : decode cc pc = .ok (.lcmp, 1))  (k : fm_W sh X nL (pc + 1) lv (.int (lg_cmp x y) :: st) M Q) : fm_W sh X nL pc lv (.long y :: .long x :: st) M Q := fun H locs hP hS ls hl => W.lcmp hB.x hB.b hd  (k H locs hP hS ls hl)
theorem fr_dup (hB : fm_B sh X cc nL own ret) {va : Value} (hd : decode cc pc = .ok (.dup, 1)) (hc : va.category = 1) (k : fm_W sh X nL (pc + 1) lv (va :: va :: st) M Q) : fm_W sh X nL pc lv (va :: st) M Q := fun H locs hP hS ls hl => lv_dup hB.x hB.b hd hc (k H locs hP hS ls hl)
theorem fr_pop (hB : fm_B sh X cc nL own ret) {va : Value} (hd : decode cc pc = .ok (.pop, 1)) (hc : va.category = 1) (k : fm_W sh X nL (pc + 1) lv (st) M Q) : fm_W sh X nL pc lv (va :: st) M Q := fun H locs hP hS ls hl => lv_pop hB.x hB.b hd hc (k H locs hP hS ls hl)
theorem fr_dup_x1 (hB : fm_B sh X cc nL own ret) {va vb : Value} (hd : decode cc pc = .ok (.dup_x1, 1)) (hc : va.category = 1) (hc2 : vb.category = 1) (k : fm_W sh X nL (pc + 1) lv (va :: vb :: va :: st) M Q) : fm_W sh X nL pc lv (va :: vb :: st) M Q := fun H locs hP hS ls hl => lv_dup_x1 hB.x hB.b hd hc hc2 (k H locs hP hS ls hl)
theorem fr_dup2_11 (hB : fm_B sh X cc nL own ret) {va vb : Value} (hd : decode cc pc = .ok (.dup2, 1)) (hc : va.category = 1) (hc2 : vb.category = 1) (k : fm_W sh X nL (pc + 1) lv (va :: vb :: va :: vb :: st) M Q) : fm_W sh X nL pc lv (va :: vb :: st) M Q := fun H locs hP hS ls hl => lv_dup2_11 hB.x hB.b hd hc hc2 (k H locs hP hS ls hl)
theorem fr_dup2_2 (hB : fm_B sh X cc nL own ret) {va : Value} (hd : decode cc pc = .ok (.dup2, 1)) (hc : va.category = 2) (k : fm_W sh X nL (pc + 1) lv (va :: va :: st) M Q) : fm_W sh X nL pc lv (va :: st) M Q := fun H locs hP hS ls hl => lv_dup2_2 hB.x hB.b hd hc (k H locs hP hS ls hl)
theorem fr_null (hB : fm_B sh X cc nL own ret)  (hd : decode cc pc = .ok (.aconst_null, 1))  (k : fm_W sh X nL (pc + 1) lv (.null :: st) M Q) : fm_W sh X nL pc lv (st) M Q := fun H locs hP hS ls hl => lv_null hB.x hB.b hd  (k H locs hP hS ls hl)
theorem fr_if_eq (hB : fm_B sh X cc nL own ret) {x : Int32} {off : Int} {tgt : Nat} (hd : decode cc pc = .ok (.ifCond .eq off, 3)) (ht : (pc : Int) + off = (tgt : Int)) (kt : x = 0 → fm_W sh X nL tgt lv st M Q) (kf : ¬ (x = 0) → fm_W sh X nL (pc + 3) lv st M Q) : fm_W sh X nL pc lv (.int x :: st) M Q := fun H locs hP hS ls hl => lv_if_eq hB.x hB.b hd ht (fun h => kt (by first | exact h | simpa using h) H locs hP hS ls hl) (fun h => kf (by first | exact h | simpa using h) H locs hP hS ls hl)
theorem fr_if_ne (hB : fm_B sh X cc nL own ret) {x : Int32} {off : Int} {tgt : Nat} (hd : decode cc pc = .ok (.ifCond .ne off, 3)) (ht : (pc : Int) + off = (tgt : Int)) (kt : ¬ x = 0 → fm_W sh X nL tgt lv st M Q) (kf : ¬ (¬ x = 0) → fm_W sh X nL (pc + 3) lv st M Q) : fm_W sh X nL pc lv (.int x :: st) M Q := fun H locs hP hS ls hl => lv_if_ne hB.x hB.b hd ht (fun h => kt (by first | exact h | simpa using h) H locs hP hS ls hl) (fun h => kf (by first | exact h | simpa using h) H locs hP hS ls hl)
theorem fr_if_lt (hB : fm_B sh X cc nL own ret) {x : Int32} {off : Int} {tgt : Nat} (hd : decode cc pc = .ok (.ifCond .lt off, 3)) (ht : (pc : Int) + off = (tgt : Int)) (kt : x < 0 → fm_W sh X nL tgt lv st M Q) (kf : ¬ (x < 0) → fm_W sh X nL (pc + 3) lv st M Q) : fm_W sh X nL pc lv (.int x :: st) M Q := fun H locs hP hS ls hl => lv_if_lt hB.x hB.b hd ht (fun h => kt (by first | exact h | simpa using h) H locs hP hS ls hl) (fun h => kf (by first | exact h | simpa using h) H locs hP hS ls hl)
theorem fr_if_ge (hB : fm_B sh X cc nL own ret) {x : Int32} {off : Int} {tgt : Nat} (hd : decode cc pc = .ok (.ifCond .ge off, 3)) (ht : (pc : Int) + off = (tgt : Int)) (kt : 0 ≤ x → fm_W sh X nL tgt lv st M Q) (kf : ¬ (0 ≤ x) → fm_W sh X nL (pc + 3) lv st M Q) : fm_W sh X nL pc lv (.int x :: st) M Q := fun H locs hP hS ls hl => lv_if_ge hB.x hB.b hd ht (fun h => kt (by first | exact h | simpa using h) H locs hP hS ls hl) (fun h => kf (by first | exact h | simpa using h) H locs hP hS ls hl)
theorem fr_if_gt (hB : fm_B sh X cc nL own ret) {x : Int32} {off : Int} {tgt : Nat} (hd : decode cc pc = .ok (.ifCond .gt off, 3)) (ht : (pc : Int) + off = (tgt : Int)) (kt : 0 < x → fm_W sh X nL tgt lv st M Q) (kf : ¬ (0 < x) → fm_W sh X nL (pc + 3) lv st M Q) : fm_W sh X nL pc lv (.int x :: st) M Q := fun H locs hP hS ls hl => lv_if_gt hB.x hB.b hd ht (fun h => kt (by first | exact h | simpa using h) H locs hP hS ls hl) (fun h => kf (by first | exact h | simpa using h) H locs hP hS ls hl)
theorem fr_if_le (hB : fm_B sh X cc nL own ret) {x : Int32} {off : Int} {tgt : Nat} (hd : decode cc pc = .ok (.ifCond .le off, 3)) (ht : (pc : Int) + off = (tgt : Int)) (kt : x ≤ 0 → fm_W sh X nL tgt lv st M Q) (kf : ¬ (x ≤ 0) → fm_W sh X nL (pc + 3) lv st M Q) : fm_W sh X nL pc lv (.int x :: st) M Q := fun H locs hP hS ls hl => lv_if_le hB.x hB.b hd ht (fun h => kt (by first | exact h | simpa using h) H locs hP hS ls hl) (fun h => kf (by first | exact h | simpa using h) H locs hP hS ls hl)
theorem fr_icmp_eq (hB : fm_B sh X cc nL own ret) {x y : Int32} {off : Int} {tgt : Nat} (hd : decode cc pc = .ok (.if_icmp .eq off, 3)) (ht : (pc : Int) + off = (tgt : Int)) (kt : x = y → fm_W sh X nL tgt lv st M Q) (kf : ¬ (x = y) → fm_W sh X nL (pc + 3) lv st M Q) : fm_W sh X nL pc lv (.int y :: .int x :: st) M Q := fun H locs hP hS ls hl => lv_icmp_eq hB.x hB.b hd ht (fun h => kt (by first | exact h | simpa using h) H locs hP hS ls hl) (fun h => kf (by first | exact h | simpa using h) H locs hP hS ls hl)
theorem fr_icmp_ne (hB : fm_B sh X cc nL own ret) {x y : Int32} {off : Int} {tgt : Nat} (hd : decode cc pc = .ok (.if_icmp .ne off, 3)) (ht : (pc : Int) + off = (tgt : Int)) (kt : ¬ x = y → fm_W sh X nL tgt lv st M Q) (kf : ¬ (¬ x = y) → fm_W sh X nL (pc + 3) lv st M Q) : fm_W sh X nL pc lv (.int y :: .int x :: st) M Q := fun H locs hP hS ls hl => lv_icmp_ne hB.x hB.b hd ht (fun h => kt (by first | exact h | simpa using h) H locs hP hS ls hl) (fun h => kf (by first | exact h | simpa using h) H locs hP hS ls hl)
theorem fr_icmp_lt (hB : fm_B sh X cc nL own ret) {x y : Int32} {off : Int} {tgt : Nat} (hd : decode cc pc = .ok (.if_icmp .lt off, 3)) (ht : (pc : Int) + off = (tgt : Int)) (kt : x < y → fm_W sh X nL tgt lv st M Q) (kf : ¬ (x < y) → fm_W sh X nL (pc + 3) lv st M Q) : fm_W sh X nL pc lv (.int y :: .int x :: st) M Q := fun H locs hP hS ls hl => lv_icmp_lt hB.x hB.b hd ht (fun h => kt (by first | exact h | simpa using h) H locs hP hS ls hl) (fun h => kf (by first | exact h | simpa using h) H locs hP hS ls hl)
theorem fr_icmp_ge (hB : fm_B sh X cc nL own ret) {x y : Int32} {off : Int} {tgt : Nat} (hd : decode cc pc = .ok (.if_icmp .ge off, 3)) (ht : (pc : Int) + off = (tgt : Int)) (kt : y ≤ x → fm_W sh X nL tgt lv st M Q) (kf : ¬ (y ≤ x) → fm_W sh X nL (pc + 3) lv st M Q) : fm_W sh X nL pc lv (.int y :: .int x :: st) M Q := fun H locs hP hS ls hl => lv_icmp_ge hB.x hB.b hd ht (fun h => kt (by first | exact h | simpa using h) H locs hP hS ls hl) (fun h => kf (by first | exact h | simpa using h) H locs hP hS ls hl)
theorem fr_icmp_gt (hB : fm_B sh X cc nL own ret) {x y : Int32} {off : Int} {tgt : Nat} (hd : decode cc pc = .ok (.if_icmp .gt off, 3)) (ht : (pc : Int) + off = (tgt : Int)) (kt : y < x → fm_W sh X nL tgt lv st M Q) (kf : ¬ (y < x) → fm_W sh X nL (pc + 3) lv st M Q) : fm_W sh X nL pc lv (.int y :: .int x :: st) M Q := fun H locs hP hS ls hl => lv_icmp_gt hB.x hB.b hd ht (fun h => kt (by first | exact h | simpa using h) H locs hP hS ls hl) (fun h => kf (by first | exact h | simpa using h) H locs hP hS ls hl)
theorem fr_icmp_le (hB : fm_B sh X cc nL own ret) {x y : Int32} {off : Int} {tgt : Nat} (hd : decode cc pc = .ok (.if_icmp .le off, 3)) (ht : (pc : Int) + off = (tgt : Int)) (kt : x ≤ y → fm_W sh X nL tgt lv st M Q) (kf : ¬ (x ≤ y) → fm_W sh X nL (pc + 3) lv st M Q) : fm_W sh X nL pc lv (.int y :: .int x :: st) M Q := fun H locs hP hS ls hl => lv_icmp_le hB.x hB.b hd ht (fun h => kt (by first | exact h | simpa using h) H locs hP hS ls hl) (fun h => kf (by first | exact h | simpa using h) H locs hP hS ls hl)
theorem fr_goto (hB : fm_B sh X cc nL own ret) {off : Int} {tgt : Nat} (hd : decode cc pc = .ok (.goto off, 3)) (ht : (pc : Int) + off = (tgt : Int)) (k : fm_W sh X nL tgt lv st M Q) : fm_W sh X nL pc lv st M Q := fun H locs hP hS ls hl => lv_goto hB.x hB.b hd ht (k H locs hP hS ls hl)
theorem fr_ifnull (hB : fm_B sh X cc nL own ret) {x : Nat} {off : Int} (hd : decode cc pc = .ok (.ifnull off, 3)) (k : fm_W sh X nL (pc + 3) lv st M Q) : fm_W sh X nL pc lv (.ref x :: st) M Q := fun H locs hP hS ls hl => lv_ifnull hB.x hB.b hd (k H locs hP hS ls hl)
theorem fr_ifnullN (hB : fm_B sh X cc nL own ret) {off : Int} {tgt : Nat} (hd : decode cc pc = .ok (.ifnull off, 3)) (ht : (pc : Int) + off = (tgt : Int)) (k : fm_W sh X nL tgt lv st M Q) : fm_W sh X nL pc lv (.null :: st) M Q := fun H locs hP hS ls hl => lv_ifnullN hB.x hB.b hd ht (k H locs hP hS ls hl)
theorem fr_ifnonnull (hB : fm_B sh X cc nL own ret) {x : Nat} {off : Int} {tgt : Nat} (hd : decode cc pc = .ok (.ifnonnull off, 3)) (ht : (pc : Int) + off = (tgt : Int)) (k : fm_W sh X nL tgt lv st M Q) : fm_W sh X nL pc lv (.ref x :: st) M Q := fun H locs hP hS ls hl => lv_ifnonnull hB.x hB.b hd ht (k H locs hP hS ls hl)
theorem fr_ifnonnullN (hB : fm_B sh X cc nL own ret) {off : Int} (hd : decode cc pc = .ok (.ifnonnull off, 3)) (k : fm_W sh X nL (pc + 3) lv st M Q) : fm_W sh X nL pc lv (.null :: st) M Q := fun H locs hP hS ls hl => lv_ifnonnullN hB.x hB.b hd (k H locs hP hS ls hl)
theorem fr_tableIn (hB : fm_B sh X cc nL own ret) {dflt lo hi : Int} {offs : Array Int} {len : Nat} {x : Int32} {off : Int} {tgt : Nat} (hd : decode cc pc = .ok (.tableswitch dflt lo hi offs, len)) (h1 : ¬ x.toInt < lo) (h2 : ¬ hi < x.toInt) (ho : offs[(x.toInt - lo).toNat]? = some off) (ht : (pc : Int) + off = (tgt : Int)) (k : fm_W sh X nL tgt lv st M Q) : fm_W sh X nL pc lv (.int x :: st) M Q := fun H locs hP hS ls hl => lv_tableIn hB.x hB.b hd h1 h2 ho ht (k H locs hP hS ls hl)
theorem fr_tableOut (hB : fm_B sh X cc nL own ret) {dflt lo hi : Int} {offs : Array Int} {len : Nat} {x : Int32} {tgt : Nat} (hd : decode cc pc = .ok (.tableswitch dflt lo hi offs, len)) (h : x.toInt < lo ∨ hi < x.toInt) (ht : (pc : Int) + dflt = (tgt : Int)) (k : fm_W sh X nL tgt lv st M Q) : fm_W sh X nL pc lv (.int x :: st) M Q := fun H locs hP hS ls hl => lv_tableOut hB.x hB.b hd h ht (k H locs hP hS ls hl)
theorem fr_lookup (hB : fm_B sh X cc nL own ret) {dflt : Int} {ps : Array (Int × Int)} {len : Nat} {x : Int32} {off : Int} {tgt : Nat} (hd : decode cc pc = .ok (.lookupswitch dflt ps, len)) (hp : (ps.toList.zip (ps.toList.drop 1)).all (fun (a, next) => a.1 < next.1) = true) (ho : Op.lookupswitch.offset ps.toList dflt x.toInt = off) (ht : (pc : Int) + off = (tgt : Int)) (k : fm_W sh X nL tgt lv st M Q) : fm_W sh X nL pc lv (.int x :: st) M Q := fun H locs hP hS ls hl => lv_lookup hB.x hB.b hd hp ho ht (k H locs hP hS ls hl)
theorem fr_ldcw (hB : fm_B sh X cc nL own ret) {index : Nat} {v : Int32} (hd : decode cc pc = .ok (.ldc_w index, 3)) (hc : Cond.constant own index v ∈ fm_tb) (k : fm_W sh X nL (pc + 3) lv (.int v :: st) M Q) : fm_W sh X nL pc lv st M Q := fun H locs hP hS ls hl => lv_ldcw hB.x hB.b hB.ow (hB.tb _ hc) hd (k H locs hP hS ls hl)
theorem fr_ldc2 (hB : fm_B sh X cc nL own ret) {index : Nat} {v : Int64} (hd : decode cc pc = .ok (.ldc2_w index, 3)) (hc : Cond.constantLong own index v ∈ fm_tb) (k : fm_W sh X nL (pc + 3) lv (.long v :: st) M Q) : fm_W sh X nL pc lv st M Q := fun H locs hP hS ls hl => lv_ldc2 hB.x hB.b hB.ow (hB.tb _ hc) hd (k H locs hP hS ls hl)
/-- a field's link: own class, pool number, class of the field, its place -/
def fm_lkF (own : String) (idx ci j : Nat) : Prop := ∃ (C : String) (T : u_T) (N : Nat), vwCl[ci]? = some (C, T, N) ∧ (∀ w ∈ u_ws C T N, w ∈ fm_tb) ∧ j < N ∧ Cond.fieldLink own idx (T j).1 (T j).2.1 (T j).2.2.1 ∈ fm_tb
theorem fr_get (hB : fm_B sh X cc nL own ret) {idx ci j k : Nat} {fs : List (Option Nat)} {o : Option Nat} (hd : decode cc pc = .ok (.getfield idx, 3)) (hf : fm_lkF own idx ci j) (hk : sh[k]? = some (.inl (ci, fs))) (hj : fs[j]? = some o) (kk : fm_W sh X nL (pc + 3) lv (fm_fv (fm_rh X) M k j o :: st) M Q) : fm_W sh X nL pc lv (.ref (fm_rh X k) :: st) M Q := fun H locs hP hS ls hl => by
  obtain ⟨C, T, N, h1, h2, h3, h4⟩ := hf
  exact va_get (D := fm_Dg X) (tys := fm_tys (fm_kA X)) hB.x hB.b hB.tb h2 hB.ow hB.K hP k (fm_w_get hk) h1 j h3 (hB.tb _ h4) (fun _ h => h) (v := fm_fv (fm_rh X) M k j o) (by rw [List.getElem?_mapIdx, hj]; rfl) hd (kk H locs hP hS ls hl)
theorem fr_getI (hB : fm_B sh X cc nL own ret) {idx ci j k : Nat} {fs : List (Option Nat)} (hd : decode cc pc = .ok (.getfield idx, 3)) (hf : fm_lkF own idx ci j) (hk : sh[k]? = some (.inl (ci, fs))) (hj : fs[j]? = some none) (kk : fm_W sh X nL (pc + 3) lv (.int (M.1 k j) :: st) M Q) : fm_W sh X nL pc lv (.ref (fm_rh X k) :: st) M Q := fr_get hB hd hf hk hj kk
theorem fr_getR (hB : fm_B sh X cc nL own ret) {idx ci j k r : Nat} {fs : List (Option Nat)} (hd : decode cc pc = .ok (.getfield idx, 3)) (hf : fm_lkF own idx ci j) (hk : sh[k]? = some (.inl (ci, fs))) (hj : fs[j]? = some (some r)) (kk : fm_W sh X nL (pc + 3) lv (.ref (fm_rh X r) :: st) M Q) : fm_W sh X nL pc lv (.ref (fm_rh X k) :: st) M Q := fr_get hB hd hf hk hj kk
/-- a field that is written: beside its link, its type, and that it is no final one -/
def fm_lkP (own : String) (idx ci j : Nat) (ty : FieldType) : Prop := ∃ (C : String) (T : u_T) (N : Nat) (ty0 : Nat → FieldType), vwCl[ci]? = some (C, T, N) ∧ (∀ w ∈ u_ws C T N, w ∈ fm_tb) ∧ j < N ∧ Cond.fieldLink own idx (T j).1 (T j).2.1 (T j).2.2.1 ∈ fm_tb ∧ (∀ k, k < N → parseFieldDescriptor (T k).2.2.1 = some (ty0 k)) ∧ (∀ a, a < N → ∀ b, b < N → a ≠ b → (T a).2.1 ≠ (T b).2.1) ∧ (T j).2.2.2 = false ∧ parseFieldDescriptor (T j).2.2.1 = some ty
theorem fm_mapIdx_set {rh : Nat → Nat} {k j : Nat} {v : Int32} {fs : List (Option Nat)} (hj : fs[j]? = some none) : (fs.mapIdx (fm_fv rh M k)).set j (.int v) = fs.mapIdx (fm_fv rh (fm_pi M k j v) k) := by
  apply List.ext_getElem?
  intro i
  rw [List.getElem?_mapIdx]
  by_cases e : j = i
  · subst e
    have hlt : j < (fs.mapIdx (fm_fv rh M k)).length := by
      rw [List.length_mapIdx]
      exact (List.getElem?_eq_some_iff.mp hj).1
    rw [List.getElem?_set_self hlt, hj]
    simp [fm_fv, fm_u]
  · rw [List.getElem?_set_ne e, List.getElem?_mapIdx]
    cases fs[i]? with
    | none => rfl
    | some o =>
      cases o with
      | some r => rfl
      | none =>
        have e' : ¬ i = j := fun q => e q.symm
        simp [fm_fv, fm_u, e']
theorem fr_put (hB : fm_B sh X cc nL own ret) {idx ci j k : Nat} {ty : FieldType} {v : Int32} {fs : List (Option Nat)} (hd : decode cc pc = .ok (.putfield idx, 3)) (hf : fm_lkP own idx ci j ty) (hk : sh[k]? = some (.inl (ci, fs))) (hj : fs[j]? = some none) (hn : narrow ty (.int v) = .int v) (hfit : fits ty (.int v) = true) (kk : fm_W sh X nL (pc + 3) lv st (fm_pi M k j v) Q) : fm_W sh X nL pc lv (.int v :: .ref (fm_rh X k) :: st) M Q := fun H locs hP hS ls hl => by
  obtain ⟨C, T, N, ty0, h1, h2, h3, h4, h5, h6, h7, h8⟩ := hf
  refine va_put (D := fm_Dg X) (tys := fm_tys (fm_kA X)) hB.x hB.b hB.tb h2 ty0 h5 h6 hB.ow hB.K hP (hB.D.d _ _) hS k (fm_w_get hk) h1 j h3 (hB.tb _ h4) (fun _ h => h) h7 h8 hn hfit (by rw [List.length_mapIdx]; exact (List.getElem?_eq_some_iff.mp hj).1) hd (fun H1 locs1 hP1 _ hS1 => kk H1 locs1 ?_ hS1 ls hl)
  have e := fm_w_set (sh := sh) (rh := fm_rh X) (kA := fm_kA X) (M := M) (M' := fm_pi M k j v) (k := k) (x := .inl (ci, fs)) (z := (fm_rh X k, .inr (ci, (fs.mapIdx (fm_fv (fm_rh X) M k)).set j (.int v)))) hk (by rw [fm_mapIdx_set hj]; rfl) (fun a ha => ⟨fm_u_ne _ _ _ ha, rfl⟩)
  rw [← e]
  exact hP1
theorem fr_putI (hB : fm_B sh X cc nL own ret) {idx ci j k : Nat} {v : Int32} {fs : List (Option Nat)} (hd : decode cc pc = .ok (.putfield idx, 3)) (hf : fm_lkP own idx ci j .int) (hk : sh[k]? = some (.inl (ci, fs))) (hj : fs[j]? = some none) (kk : fm_W sh X nL (pc + 3) lv st (fm_pi M k j v) Q) : fm_W sh X nL pc lv (.int v :: .ref (fm_rh X k) :: st) M Q := fr_put hB hd hf hk hj rfl rfl kk
theorem fr_iald (hB : fm_B sh X cc nL own ret) {k n : Nat} {i : Int32} (a : Nat) (hd : decode cc pc = .ok (.iaload, 1)) (hk : sh[k]? = some (.inr (0, n))) (hi : i = nI a) (ha : a < n) (hn : n < 2 ^ 31) (kk : fm_W sh X nL (pc + 1) lv (.int (M.1 k a) :: st) M Q) : fm_W sh X nL pc lv (.int i :: .ref (fm_rh X k) :: st) M Q := fun H locs hP hS ls hl => by
  subst hi
  have h1 := va_iald (p := fm_p X) (l := fm_l X) (e := fm_en X) (R := fm_R X) (m := fm_m X) (args := fm_ar X) (below := fm_bl X) (meth := fm_me X) (locs := locs) (cells := 0) (slots := 0) (Q := Q) (ls := ls) (rest := st) (D := fm_Dg X) (tys := fm_tys (fm_kA X)) hB.x hB.b hB.K hP k 0 (fm_w_get hk) rfl (vp_in_nI ha hn) hd
  rw [nI_clamp (Nat.lt_trans ha hn)] at h1
  exact h1 (kk H locs hP hS ls hl)
theorem fr_lald (hB : fm_B sh X cc nL own ret) {k n : Nat} {i : Int32} (a : Nat) (hd : decode cc pc = .ok (.laload, 1)) (hk : sh[k]? = some (.inr (1, n))) (hi : i = nI a) (ha : a < n) (hn : n < 2 ^ 31) (kk : fm_W sh X nL (pc + 1) lv (.long (M.2 k a) :: st) M Q) : fm_W sh X nL pc lv (.int i :: .ref (fm_rh X k) :: st) M Q := fun H locs hP hS ls hl => by
  subst hi
  have h1 := va_lald (p := fm_p X) (l := fm_l X) (e := fm_en X) (R := fm_R X) (m := fm_m X) (args := fm_ar X) (below := fm_bl X) (meth := fm_me X) (locs := locs) (cells := 0) (slots := 0) (Q := Q) (ls := ls) (rest := st) (D := fm_Dg X) (tys := fm_tys (fm_kA X)) hB.x hB.b hB.K hP k 1 (fm_w_get hk) rfl (vp_in_nI ha hn) hd
  rw [nI_clamp (Nat.lt_trans ha hn)] at h1
  exact h1 (kk H locs hP hS ls hl)
theorem fr_bald (hB : fm_B sh X cc nL own ret) {k n : Nat} {i : Int32} (a : Nat) (hd : decode cc pc = .ok (.baload, 1)) (hk : sh[k]? = some (.inr (2, n))) (hi : i = nI a) (ha : a < n) (hn : n < 2 ^ 31) (kk : fm_W sh X nL (pc + 1) lv (.int (M.1 k a) :: st) M Q) : fm_W sh X nL pc lv (.int i :: .ref (fm_rh X k) :: st) M Q := fun H locs hP hS ls hl => by
  subst hi
  have h1 := va_bald (p := fm_p X) (l := fm_l X) (e := fm_en X) (R := fm_R X) (m := fm_m X) (args := fm_ar X) (below := fm_bl X) (meth := fm_me X) (locs := locs) (cells := 0) (slots := 0) (Q := Q) (ls := ls) (rest := st) (D := fm_Dg X) (tys := fm_tys (fm_kA X)) hB.x hB.b hB.K hP k 2 (fm_w_get hk) rfl (vp_in_nI ha hn) hd
  rw [nI_clamp (Nat.lt_trans ha hn)] at h1
  exact h1 (kk H locs hP hS ls hl)
theorem fr_zald (hB : fm_B sh X cc nL own ret) {k n : Nat} {i : Int32} (a : Nat) (hd : decode cc pc = .ok (.baload, 1)) (hk : sh[k]? = some (.inr (3, n))) (hi : i = nI a) (ha : a < n) (hn : n < 2 ^ 31) (kk : fm_W sh X nL (pc + 1) lv (.int (M.1 k a) :: st) M Q) : fm_W sh X nL pc lv (.int i :: .ref (fm_rh X k) :: st) M Q := fun H locs hP hS ls hl => by
  subst hi
  have h1 := va_zald (p := fm_p X) (l := fm_l X) (e := fm_en X) (R := fm_R X) (m := fm_m X) (args := fm_ar X) (below := fm_bl X) (meth := fm_me X) (locs := locs) (cells := 0) (slots := 0) (Q := Q) (ls := ls) (rest := st) (D := fm_Dg X) (tys := fm_tys (fm_kA X)) hB.x hB.b hB.K hP k 3 (fm_w_get hk) rfl (vp_in_nI ha hn) hd
  rw [nI_clamp (Nat.lt_trans ha hn)] at h1
  exact h1 (kk H locs hP hS ls hl)
theorem fr_iast (hB : fm_B sh X cc nL own ret) {k n : Nat} {i : Int32} {x : Int32} (a : Nat) (hd : decode cc pc = .ok (.iastore, 1)) (hk : sh[k]? = some (.inr (0, n))) (hi : i = nI a) (ha : a < n) (hn : n < 2 ^ 31) (kk : fm_W sh X nL (pc + 1) lv st (fm_pi M k a x) Q) : fm_W sh X nL pc lv (.int x :: .int i :: .ref (fm_rh X k) :: st) M Q := fun H locs hP hS ls hl => by
  subst hi
  have h1 := va_iast (p := fm_p X) (l := fm_l X) (e := fm_en X) (R := fm_R X) (m := fm_m X) (args := fm_ar X) (below := fm_bl X) (meth := fm_me X) (cells := 0) (slots := 0) (Q := Q) (ls := ls) (rest := st) (x := x) (D := fm_Dg X) (tys := fm_tys (fm_kA X)) hB.x hB.b hB.K hP (hB.D.d _ _) hS k 0 (fm_w_get hk) rfl (vp_in_nI ha hn) hd
  rw [nI_clamp (Nat.lt_trans ha hn)] at h1
  refine h1 (fun H1 locs1 hP1 _ hS1 => kk H1 locs1 ?_ hS1 ls hl)
  have e := fm_w_set (sh := sh) (rh := fm_rh X) (kA := fm_kA X) (M := M) (M' := fm_pi M k a x) (k := k) (x := .inr (0, n)) (z := (fm_rh X k, .inl (fm_kA X 0, n, .inl (upd (M.1 k) a x)))) hk (by simp only [fm_e, fm_ac, fm_u_row]; rfl) (fun b h9 => ⟨fm_u_ne _ _ _ h9, rfl⟩)
  rw [← e]
  exact hP1
theorem fr_last (hB : fm_B sh X cc nL own ret) {k n : Nat} {i : Int32} {x : Int64} (a : Nat) (hd : decode cc pc = .ok (.lastore, 1)) (hk : sh[k]? = some (.inr (1, n))) (hi : i = nI a) (ha : a < n) (hn : n < 2 ^ 31) (kk : fm_W sh X nL (pc + 1) lv st (fm_pl M k a x) Q) : fm_W sh X nL pc lv (.long x :: .int i :: .ref (fm_rh X k) :: st) M Q := fun H locs hP hS ls hl => by
  subst hi
  have h1 := va_last (p := fm_p X) (l := fm_l X) (e := fm_en X) (R := fm_R X) (m := fm_m X) (args := fm_ar X) (below := fm_bl X) (meth := fm_me X) (cells := 0) (slots := 0) (Q := Q) (ls := ls) (rest := st) (x := x) (D := fm_Dg X) (tys := fm_tys (fm_kA X)) hB.x hB.b hB.K hP (hB.D.d _ _) hS k 1 (fm_w_get hk) rfl (vp_in_nI ha hn) hd
  rw [nI_clamp (Nat.lt_trans ha hn)] at h1
  refine h1 (fun H1 locs1 hP1 _ hS1 => kk H1 locs1 ?_ hS1 ls hl)
  have e := fm_w_set (sh := sh) (rh := fm_rh X) (kA := fm_kA X) (M := M) (M' := fm_pl M k a x) (k := k) (x := .inr (1, n)) (z := (fm_rh X k, .inl (fm_kA X 1, n, .inr (.inl (vp_updL (M.2 k) a x))))) hk (by simp only [fm_e, fm_ac, fm_u_row]; rfl) (fun b h9 => ⟨rfl, fm_u_ne _ _ _ h9⟩)
  rw [← e]
  exact hP1
theorem fr_bast (hB : fm_B sh X cc nL own ret) {k n : Nat} {i : Int32} {x : Int32} (a : Nat) (hd : decode cc pc = .ok (.bastore, 1)) (hk : sh[k]? = some (.inr (2, n))) (hi : i = nI a) (ha : a < n) (hn : n < 2 ^ 31) (kk : fm_W sh X nL (pc + 1) lv st (fm_pi M k a (vp_nar .byte x)) Q) : fm_W sh X nL pc lv (.int x :: .int i :: .ref (fm_rh X k) :: st) M Q := fun H locs hP hS ls hl => by
  subst hi
  have h1 := va_bast (p := fm_p X) (l := fm_l X) (e := fm_en X) (R := fm_R X) (m := fm_m X) (args := fm_ar X) (below := fm_bl X) (meth := fm_me X) (cells := 0) (slots := 0) (Q := Q) (ls := ls) (rest := st) (x := x) (D := fm_Dg X) (tys := fm_tys (fm_kA X)) hB.x hB.b hB.K hP (hB.D.d _ _) hS k 2 (fm_w_get hk) rfl (vp_in_nI ha hn) hd
  rw [nI_clamp (Nat.lt_trans ha hn)] at h1
  refine h1 (fun H1 locs1 hP1 _ hS1 => kk H1 locs1 ?_ hS1 ls hl)
  have e := fm_w_set (sh := sh) (rh := fm_rh X) (kA := fm_kA X) (M := M) (M' := fm_pi M k a (vp_nar .byte x)) (k := k) (x := .inr (2, n)) (z := (fm_rh X k, .inl (fm_kA X 2, n, .inl (upd (M.1 k) a (vp_nar .byte x))))) hk (by simp only [fm_e, fm_ac, fm_u_row]; rfl) (fun b h9 => ⟨fm_u_ne _ _ _ h9, rfl⟩)
  rw [← e]
  exact hP1
theorem fr_zast (hB : fm_B sh X cc nL own ret) {k n : Nat} {i : Int32} {x : Int32} (a : Nat) (hd : decode cc pc = .ok (.bastore, 1)) (hk : sh[k]? = some (.inr (3, n))) (hi : i = nI a) (ha : a < n) (hn : n < 2 ^ 31) (kk : fm_W sh X nL (pc + 1) lv st (fm_pi M k a (vp_nar .boolean x)) Q) : fm_W sh X nL pc lv (.int x :: .int i :: .ref (fm_rh X k) :: st) M Q := fun H locs hP hS ls hl => by
  subst hi
  have h1 := va_zast (p := fm_p X) (l := fm_l X) (e := fm_en X) (R := fm_R X) (m := fm_m X) (args := fm_ar X) (below := fm_bl X) (meth := fm_me X) (cells := 0) (slots := 0) (Q := Q) (ls := ls) (rest := st) (x := x) (D := fm_Dg X) (tys := fm_tys (fm_kA X)) hB.x hB.b hB.K hP (hB.D.d _ _) hS k 3 (fm_w_get hk) rfl (vp_in_nI ha hn) hd
  rw [nI_clamp (Nat.lt_trans ha hn)] at h1
  refine h1 (fun H1 locs1 hP1 _ hS1 => kk H1 locs1 ?_ hS1 ls hl)
  have e := fm_w_set (sh := sh) (rh := fm_rh X) (kA := fm_kA X) (M := M) (M' := fm_pi M k a (vp_nar .boolean x)) (k := k) (x := .inr (3, n)) (z := (fm_rh X k, .inl (fm_kA X 3, n, .inl (upd (M.1 k) a (vp_nar .boolean x))))) hk (by simp only [fm_e, fm_ac, fm_u_row]; rfl) (fun b h9 => ⟨fm_u_ne _ _ _ h9, rfl⟩)
  rw [← e]
  exact hP1
theorem fr_aald (hB : fm_B sh X cc nL own ret) {k n : Nat} {i : Int32} (a : Nat) (hd : decode cc pc = .ok (.aaload, 1)) (hk : sh[k]? = some (.inr (4, n))) (hi : i = nI a) (ha : a < n) (hn : n < 2 ^ 31) (kk : fm_W sh X nL (pc + 1) lv (.ref (fm_rh X (k + 1 + 2 * a)) :: st) M Q) : fm_W sh X nL pc lv (.int i :: .ref (fm_rh X k) :: st) M Q := fun H locs hP hS ls hl => by
  subst hi
  have h1 := va_aldq (p := fm_p X) (l := fm_l X) (e := fm_en X) (R := fm_R X) (m := fm_m X) (args := fm_ar X) (below := fm_bl X) (meth := fm_me X) (locs := locs) (cells := 0) (slots := 0) (Q := Q) (ls := ls) (rest := st) (D := fm_Dg X) (tys := fm_tys (fm_kA X)) hB.x hB.b hB.K hP k 4 (fm_w_get hk) rfl (vp_in_nI ha hn) hd
  rw [nI_clamp (Nat.lt_trans ha hn)] at h1
  exact h1 (kk H locs hP hS ls hl)
theorem fr_alen (hB : fm_B sh X cc nL own ret) {k t n : Nat} (hd : decode cc pc = .ok (.arraylength, 1)) (hk : sh[k]? = some (.inr (t, n))) (ht : t < 5) (kk : fm_W sh X nL (pc + 1) lv (.int (nI n) :: st) M Q) : fm_W sh X nL pc lv (.ref (fm_rh X k) :: st) M Q := fun H locs hP hS ls hl => by
  have ht5 : ∃ ty, (fm_tys (fm_kA X))[t]? = some (fm_kA X t, ty) := by
    match t, ht with
    | 0, _ => exact ⟨_, rfl⟩
    | 1, _ => exact ⟨_, rfl⟩
    | 2, _ => exact ⟨_, rfl⟩
    | 3, _ => exact ⟨_, rfl⟩
    | 4, _ => exact ⟨_, rfl⟩
  obtain ⟨ty, h2⟩ := ht5
  exact va_alen (D := fm_Dg X) (tys := fm_tys (fm_kA X)) hB.x hB.b hB.K hP k t (fm_w_get hk) h2 rfl hd (kk H locs hP hS ls hl)
theorem fr_getPT (hB : fm_B sh X cc nL own ret) {idx : Nat} (hd : decode cc pc = .ok (.getstatic idx, 3)) (hf : Cond.fieldLink own idx "FaultGraph$Plant" "PART_TABLES" "[J" ∈ fm_tb) (kk : ∀ t : Nat, va_T .long t 6 (fun j => .long (fm_PT j)) (fm_A X) (fm_s X) (fm_s X).heap → fm_W sh X nL (pc + 3) lv (.ref t :: st) M Q) : fm_W sh X nL pc lv st M Q := fun H locs hP hS ls hl => by
  obtain ⟨⟨t, h1, h2⟩, -⟩ := hB.G
  exact va_gets hB.x hB.b h1 hS hB.ow (hB.tb _ hf) (fun _ h => h) hd (kk t h2 H locs hP hS ls hl)
theorem fr_PTld (hB : fm_B sh X cc nL own ret) {t : Nat} {i : Int32} (a : Nat) (hT : va_T .long t 6 (fun j => .long (fm_PT j)) (fm_A X) (fm_s X) (fm_s X).heap) (hd : decode cc pc = .ok (.laload, 1)) (hi : i = nI a) (ha : a < 6) (kk : fm_W sh X nL (pc + 1) lv (.long (fm_PT a) :: st) M Q) : fm_W sh X nL pc lv (.int i :: .ref t :: st) M Q := fun H locs hP hS ls hl => by
  subst hi
  exact va_tl hB.x hB.b hT hS (vp_in_nI ha (by decide)) (v := .long (fm_PT a)) (by rw [nI_clamp (Nat.lt_trans ha (by decide))]) hd (kk H locs hP hS ls hl)
theorem fr_ireturn {post : Option Value → fm_M → Prop} (hB : fm_B sh X cc nL own (some .int)) {v : Int32} (hd : decode cc pc = .ok (.ireturn, 1)) (hp : post (some (.int v)) M) : fm_W sh X nL pc lv [.int v] M (fm_Q sh X post) := fun H locs hP hS ls hl =>
  W.iret hB.x hB.b hB.re (fun t ht _ => ⟨⟨some (.int v), M, rfl, hp, by rw [ht]; exact hP⟩, hS.F ht⟩) hS.2.2 hd hB.lk
theorem fr_zreturn {post : Option Value → fm_M → Prop} (hB : fm_B sh X cc nL own (some .boolean)) {v : Int32} (hd : decode cc pc = .ok (.ireturn, 1)) (hn : narrow .boolean (.int v) = .int v) (hp : post (some (.int v)) M) : fm_W sh X nL pc lv [.int v] M (fm_Q sh X post) := fun H locs hP hS ls hl =>
  W.zret hB.x hB.b hB.re hn (fun t ht _ => ⟨⟨some (.int v), M, rfl, hp, by rw [ht]; exact hP⟩, hS.F ht⟩) hS.2.2 hd hB.lk
theorem fr_lreturn {post : Option Value → fm_M → Prop} (hB : fm_B sh X cc nL own (some .long)) {v : Int64} (hd : decode cc pc = .ok (.lreturn, 1)) (hp : post (some (.long v)) M) : fm_W sh X nL pc lv [.long v] M (fm_Q sh X post) := fun H locs hP hS ls hl =>
  W.lret hB.x hB.b hB.re (fun t ht _ => ⟨⟨some (.long v), M, rfl, hp, by rw [ht]; exact hP⟩, hS.F ht⟩) hS.2.2 hd hB.lk
theorem fr_return {post : Option Value → fm_M → Prop} (hB : fm_B sh X cc nL own none) (hd : decode cc pc = .ok (.return_, 1)) (hp : post none M) : fm_W sh X nL pc lv [] M (fm_Q sh X post) := fun H locs hP hS ls hl =>
  W.vret hB.x hB.b hB.re (fun t ht _ => ⟨⟨none, M, rfl, hp, by rw [ht]; exact hP⟩, hS.F ht⟩) hS.2.2 hd hB.lk
theorem fr_areturn {post : Option Value → fm_M → Prop} {C : String} (hB : fm_B sh X cc nL own (some (.object C))) {v : Value} (hd : decode cc pc = .ok (.areturn, 1)) (hv : v = .null ∨ ∃ a, v = .ref a) (hp : post (some v) M) : fm_W sh X nL pc lv [v] M (fm_Q sh X post) := fun H locs hP hS ls hl =>
  W.aret hB.x hB.b hB.re (Or.inl ⟨C, rfl⟩) hv (fun t ht _ => ⟨⟨some v, M, rfl, hp, by rw [ht]; exact hP⟩, hS.F ht⟩) hS.2.2 hd hB.lk
/-- a call's words -/
def fm_lkM (own : String) (idx : Nat) (mt : MethodName × ByteArray × Nat × Option FieldType) (nA : Nat) : Prop := Cond.methodLink own idx mt.1 ∈ fm_tb ∧ Cond.initialized mt.1.cls ∈ fm_tb ∧ Cond.code mt.1 mt.2.1 mt.2.2.1 mt.2.2.2 ∈ fm_tb ∧ (mt.1.cls ≠ "java/lang/invoke/MethodHandle" ∧ mt.1.cls ≠ "java/lang/invoke/VarHandle" ∧ (parseMethodDescriptor mt.1.desc).map (fun d => d.parameters.length) = some nA)
def fm_lkV (own : String) (idx ci : Nat) (mt : MethodName × ByteArray × Nat × Option FieldType) (nA : Nat) : Prop := fm_lkM own idx mt nA ∧ Cond.instanceMethod mt.1 ∈ fm_tb ∧ Cond.selects mt.1.cls mt.1 mt.1 ∈ fm_tb ∧ ∃ (T : u_T) (N : Nat), vwCl[ci]? = some (mt.1.cls, T, N)
def fm_lkS (own : String) (idx : Nat) (mt : MethodName × ByteArray × Nat × Option FieldType) (nA : Nat) : Prop := fm_lkM own idx mt nA ∧ Cond.static mt.1 ∈ fm_tb
theorem fm_good {y : MethodName} {cc : ByteArray} {n : Nat} {ret : Option FieldType} (hc : Cond.code y cc n ret ∈ fm_tb) : GoodIn fm_tb (fm_ws y cc n ret) := by
  intro w hw
  have h1 : w ∈ fm_tb := by
    rcases List.mem_cons.mp hw with rfl | h
    · exact hc
    · exact h
  exact ⟨h1, good_of_word (List.mem_filter.mp h1).2⟩
theorem fm_blind {E : fm_E} {av : List Value} {sz : Nat} : FrameBlind (fm_Pc sh E av M sz) := by
  intro a U g mk h
  obtain ⟨h1, h2, h3, h4, h5, h6⟩ := h
  exact ⟨h1, h2, h3, va_K.moved (u := U) (U := U.calling g mk a) (Vm.Alike.refl U.vm) h4, h5, fm_G.same (u := U) (U := U.calling g mk a) rfl h6⟩
theorem fm_Asub (hB : fm_B sh X cc nL own ret) {H : Heap} (hz : (fm_s X).heap.size ≤ H.size) : ∀ q, fm_Ad sh (fm_rh X) H.size q → fm_A X q := by
  intro q h
  rcases h with ⟨i, x, hx, rfl⟩ | h
  · exact hB.D.2 i x hx
  · exact hB.A q (Nat.le_trans hz h)
theorem fm_pre (hB : fm_B sh X cc nL own ret) {H : Heap} {locs : List Loc} {av : List Value} (hP : va_P (fm_Dg X) vwCl (fm_w sh (fm_rh X) (fm_kA X) M) H) (hS : va_S (fm_A X) (fm_s X).heap H locs) : ∀ U : State, U.heap = H → (fm_s X).WarmedH U.vm → fm_Pc sh (fm_EX X) av M H.size av.toArray U := by
  intro U hU hW
  refine ⟨rfl, by rw [hU], by rw [hU]; exact hP, va_K.moved hW.alike hB.K, ⟨hB.D.1, fun _ _ _ => trivial⟩, ?_⟩
  rw [hU]
  exact ((hB.G.kept (fun a h1 h2 => hS.2.1 a h1 h2)).narrow (fm_Asub hB hS.1)).warm hW
theorem fm_behind (hB : fm_B sh X cc nL own ret) {H : Heap} {locs : List Loc} {ls : Array Slot} {st0 rest : List Value} {a : Array Value} {post : Option Value → fm_M → Prop} (hr : va_Run (fm_p X) (fm_l X) (fm_en X) (fm_R X) (fm_s X) (fm_m X) (fm_ar X) (fm_bl X) (fm_me X) (fm_c X) H locs 0 0 0 0 (F0 (fm_m X) pc ls st0) rest (fm_Qc sh (fm_EX X) (fm_Ad sh (fm_rh X) H.size) post a) (fm_Ad sh (fm_rh X) H.size)) (hS : va_S (fm_A X) (fm_s X).heap H locs) (hl : fm_lv ls nL lv)
    (kk : ∀ (r : Option Value) (M' : fm_M), post r M' → fm_W sh X nL (pc + 3) lv (r.toList ++ rest) M' Q) : W (fm_p X) (fm_l X) (fm_en X) (fm_R X) (fm_s X) (fm_m X) (fm_ar X) (fm_bl X) (fm_me X) (fm_c X) H locs 0 0 Q (F0 (fm_m X) pc ls st0) := by
  intro T hT Xs
  obtain ⟨v, st₀, t, T', L, h0, X', hL, e1, e2, ⟨⟨r, M', hv, hp, hPb⟩, hz, hk⟩, stp⟩ := hr T hT Xs
  cases hv
  rw [h0] at hz hk
  have hsub := fm_Asub hB hS.1
  obtain ⟨t2, a1, b1⟩ := kk v M' hp T'.heap (locs ++ L) (by rw [e1]; exact hPb) ⟨Nat.le_trans hS.1 (by rw [e1]; exact hz), fun q h1 h2 => by
      rw [e1, hk q (Nat.lt_of_lt_of_le h1 hS.1) (fun z => h2 (hsub q z))]
      exact hS.2.1 q h1 h2, fun q hq => by
      rcases List.mem_append.mp hq with h | h
      · exact hS.2.2 q h
      · exact hsub _ (hL q h)⟩ ls hl T' rfl X'
  exact ⟨t2, stp t2 a1, b1⟩
theorem fr_callV (hB : fm_B sh X cc nL own ret) {idx ci k nA h : Nat} {fs : List (Option Nat)} {mt : MethodName × ByteArray × Nat × Option FieldType} {post : Option Value → fm_M → Prop} (As rest : List Value) (hd : decode cc pc = .ok (.invokevirtual idx, 3)) (hf : fm_lkV own idx ci mt nA) (hk : sh[k]? = some (.inl (ci, fs))) (hC : fm_C sh (fm_EX X) mt h (.ref (fm_rh X k) :: As) M post) (hA : As.length = nA) (hst : st = As.reverse ++ .ref (fm_rh X k) :: rest) (hcat : (rest.map fun v => v.category).sum ≤ 8) (hR : h + 1 ≤ (fm_R X).frames ∧ 8 + (mt.2.2.1 + 11) + 64 * h ≤ (fm_R X).locals)
    (kk : ∀ (r : Option Value) (M' : fm_M), post r M' → fm_W sh X nL (pc + 3) lv (r.toList ++ rest) M' Q) : fm_W sh X nL pc lv st M Q := fun H locs hP hS ls hl => by
  subst hst
  obtain ⟨⟨h1, h2, h3, h4⟩, h5, h6, T, N, h7⟩ := hf
  refine fm_behind hB (va_runV (cc := cc) (nL := nL) (own := own) (Ts := fm_tb) (As := As) (rest := rest) (b := fm_rh X k) (C := mt.1.cls) (n := nA) ⟨hB.x, hB.b, hB.ml, hB.ow, hB.tb⟩ (hC H.size) (cwV nA hB.tb (by
    intro w hw
    rcases List.mem_append.mp hw with h8 | h8
    · have h9 : w ∈ fm_tb := by
        rcases List.mem_cons.mp h8 with rfl | h8
        · exact h1
        rcases List.mem_cons.mp h8 with rfl | h8
        · exact h5
        rcases List.mem_cons.mp h8 with rfl | h8
        · exact h6
        rcases List.mem_cons.mp h8 with rfl | h8
        · exact h2
        cases h8
      exact ⟨h9, good_of_word (List.mem_filter.mp h9).2⟩
    · exact fm_good h3 w h8) rfl rfl rfl ⟨rfl, h4⟩ hR) ⟨fm_blind, va_recv hB.K hP h7 (fm_w_get hk), fm_pre hB hP hS⟩ rfl hA hl.2.1 rfl (lv_room hcat) hd ⟨Nat.zero_le _, Nat.zero_le _⟩) hS hl kk
theorem fr_callS (hB : fm_B sh X cc nL own ret) {idx nA h : Nat} {mt : MethodName × ByteArray × Nat × Option FieldType} {post : Option Value → fm_M → Prop} (As rest : List Value) (hd : decode cc pc = .ok (.invokestatic idx, 3)) (hf : fm_lkS own idx mt nA) (hC : fm_C sh (fm_EX X) mt h As M post) (hA : As.length = nA) (hst : st = As.reverse ++ rest) (hcat : (rest.map fun v => v.category).sum ≤ 8) (hR : h + 1 ≤ (fm_R X).frames ∧ 8 + (mt.2.2.1 + 11) + 64 * h ≤ (fm_R X).locals)
    (kk : ∀ (r : Option Value) (M' : fm_M), post r M' → fm_W sh X nL (pc + 3) lv (r.toList ++ rest) M' Q) : fm_W sh X nL pc lv st M Q := fun H locs hP hS ls hl => by
  subst hst
  obtain ⟨⟨h1, h2, h3, h4⟩, h5⟩ := hf
  refine fm_behind hB (va_runS (cc := cc) (nL := nL) (own := own) (Ts := fm_tb) (As := As) (rest := rest) (n := nA) ⟨hB.x, hB.b, hB.ml, hB.ow, hB.tb⟩ (hC H.size) (va_cwS nA hB.tb (by
    intro w hw
    rcases List.mem_append.mp hw with h8 | h8
    · have h9 : w ∈ fm_tb := by
        rcases List.mem_cons.mp h8 with rfl | h8
        · exact h1
        rcases List.mem_cons.mp h8 with rfl | h8
        · exact h5
        rcases List.mem_cons.mp h8 with rfl | h8
        · exact h2
        cases h8
      exact ⟨h9, good_of_word (List.mem_filter.mp h9).2⟩
    · exact fm_good h3 w h8) rfl rfl rfl h4 hR) ⟨fm_blind, fm_pre hB hP hS⟩ rfl hA hl.2.1 rfl (lv_room hcat) hd ⟨Nat.zero_le _, Nat.zero_le _⟩) hS hl kk
/-- FaultGraph.says, a nest mate's private static method: the link stands in fm_G -/
theorem fr_callN (hB : fm_B sh X cc nL own ret) {idx nA h : Nat} {mt : MethodName × ByteArray × Nat × Option FieldType} {post : Option Value → fm_M → Prop} (As rest : List Value) (hd : decode cc pc = .ok (.invokestatic idx, 3)) (hf : va_Nw (.methodLinkNest own idx mt.1 "FaultGraph") (fm_s X)) (hw : Cond.initialized mt.1.cls ∈ fm_tb ∧ Cond.code mt.1 mt.2.1 mt.2.2.1 mt.2.2.2 ∈ fm_tb ∧ Cond.static mt.1 ∈ fm_tb ∧ (mt.1.cls ≠ "java/lang/invoke/MethodHandle" ∧ mt.1.cls ≠ "java/lang/invoke/VarHandle" ∧ (parseMethodDescriptor mt.1.desc).map (fun d => d.parameters.length) = some nA)) (hC : fm_C sh (fm_EX X) mt h As M post) (hA : As.length = nA) (hst : st = As.reverse ++ rest) (hcat : (rest.map fun v => v.category).sum ≤ 8) (hR : h + 1 ≤ (fm_R X).frames ∧ 8 + (mt.2.2.1 + 11) + 64 * h ≤ (fm_R X).locals)
    (kk : ∀ (r : Option Value) (M' : fm_M), post r M' → fm_W sh X nL (pc + 3) lv (r.toList ++ rest) M' Q) : fm_W sh X nL pc lv st M Q := fun H locs hP hS ls hl => by
  subst hst
  obtain ⟨h2, h3, h5, h4⟩ := hw
  exact fm_behind hB (va_runSN (cc := cc) (nL := nL) (own := own) (Ts := fm_tb) (As := As) (rest := rest) (n := nA) ⟨hB.x, hB.b, hB.ml, hB.ow, hB.tb⟩ (hC H.size) ⟨va_cnB nA hB.tb (fm_good h3) rfl rfl rfl hf (hB.tb _ h2) h4 hR, hB.tb _ h5, trivial⟩ ⟨fm_blind, fm_pre hB hP hS⟩ rfl hA hl.2.1 rfl (lv_room hcat) hd ⟨Nat.zero_le _, Nat.zero_le _⟩) hS hl kk
/-- Math.max, Math.min -/
theorem fr_max (hB : fm_B sh X cc nL own ret) {idx : Nat} {x y : Int32} (hd : decode cc pc = .ok (.invokestatic idx, 3)) (h1 : Cond.methodLink own idx Lib.Math.max.name ∈ fm_tb) (h2 : Cond.static Lib.Math.max.name ∈ fm_tb) (h3 : Cond.initialized "java/lang/Math" ∈ fm_tb) (h4 : Cond.code Lib.Math.max.name Lib.Math.max.code 2 (some .int) ∈ fm_tb) (hcat : (st.map fun v => v.category).sum ≤ 8) (hR : 1 ≤ (fm_R X).frames ∧ 21 ≤ (fm_R X).locals) (kk : fm_W sh X nL (pc + 3) lv (.int (if x < y then y else x) :: st) M Q) : fm_W sh X nL pc lv (.int y :: .int x :: st) M Q := fun H locs hP hS ls hl =>
  va_mmax hB.x hB.b (by rw [hB.ml, hl.2.1]) hB.ow (hB.tb _ h1) (hB.tb _ h2) (hB.tb _ h3) (hB.tb _ h4) hR.1 (Nat.le_trans (Nat.add_le_add_right hcat 13) hR.2) (Nat.zero_le _) (Nat.zero_le _) hd (kk H locs hP hS ls hl)
theorem fr_min (hB : fm_B sh X cc nL own ret) {idx : Nat} {x y : Int32} (hd : decode cc pc = .ok (.invokestatic idx, 3)) (h1 : Cond.methodLink own idx Lib.Math.min.name ∈ fm_tb) (h2 : Cond.static Lib.Math.min.name ∈ fm_tb) (h3 : Cond.initialized "java/lang/Math" ∈ fm_tb) (h4 : Cond.code Lib.Math.min.name Lib.Math.min.code 2 (some .int) ∈ fm_tb) (hcat : (st.map fun v => v.category).sum ≤ 8) (hR : 1 ≤ (fm_R X).frames ∧ 21 ≤ (fm_R X).locals) (kk : fm_W sh X nL (pc + 3) lv (.int (if y < x then y else x) :: st) M Q) : fm_W sh X nL pc lv (.int y :: .int x :: st) M Q := fun H locs hP hS ls hl =>
  va_mmin hB.x hB.b (by rw [hB.ml, hl.2.1]) hB.ow (hB.tb _ h1) (hB.tb _ h2) (hB.tb _ h3) (hB.tb _ h4) hR.1 (Nat.le_trans (Nat.add_le_add_right hcat 13) hR.2) (Nat.zero_le _) (Nat.zero_le _) hd (kk H locs hP hS ls hl)
/-- System.arraycopy over rows of ints, of longs -/
def fm_lkC (own : String) (idx : Nat) : Prop := Cond.methodLink own idx arraycopyName ∈ fm_tb ∧ Cond.native arraycopyName ∈ fm_tb ∧ Cond.static arraycopyName ∈ fm_tb ∧ Cond.initialized "java/lang/System" ∈ fm_tb
theorem fr_copyi (hB : fm_B sh X cc nL own ret) {idx k0 k1 n0 n1 : Nat} {sp dp n : Int32} (a b c : Nat) (hd : decode cc pc = .ok (.invokestatic idx, 3)) (hf : fm_lkC own idx) (hk0 : sh[k0]? = some (.inr (0, n0))) (hk1 : sh[k1]? = some (.inr (0, n1))) (ea : sp = nI a) (eb : dp = nI b) (ec : n = nI c) (h4 : a + c ≤ n0) (h5 : b + c ≤ n1) (hn0 : n0 < 2 ^ 31) (hn1 : n1 < 2 ^ 31) (hcat : (st.map fun v => v.category).sum ≤ 8) (hR : 1 ≤ (fm_R X).frames ∧ 8 + (nativeFrameWords "java/lang/System" "arraycopy" 5 + 11) ≤ (fm_R X).locals)
    (kk : fm_W sh X nL (pc + 3) lv st (fm_row M.1 k1 (va_cpy (M.1 k0) (M.1 k1) a b c), M.2) Q) : fm_W sh X nL pc lv (.int n :: .int dp :: .ref (fm_rh X k1) :: .int sp :: .ref (fm_rh X k0) :: st) M Q := fun H locs hP hS ls hl => by
  subst ea; subst eb; subst ec
  obtain ⟨h1, h2, h3, h6⟩ := hf
  have ga : a < 2 ^ 31 := by omega
  have gb : b < 2 ^ 31 := by omega
  have gc : c < 2 ^ 31 := by omega
  have h9 := va_copyi (p := fm_p X) (l := fm_l X) (e := fm_en X) (R := fm_R X) (m := fm_m X) (args := fm_ar X) (below := fm_bl X) (meth := fm_me X) (cells := 0) (slots := 0) (Q := Q) (ls := ls) (rest := st) (D := fm_Dg X) (tys := fm_tys (fm_kA X)) hB.x hB.b (by rw [hB.ml, hl.2.1]) hB.ow (hB.tb _ h1) (hB.tb _ h2) (hB.tb _ h3) (hB.tb _ h6) hB.K hP (hB.D.d _ _) hS k0 k1 0 0 (fm_w_get hk0) (fm_w_get hk1) rfl rfl rfl (sp := nI a) (dp := nI b) (n := nI c) (nI_pos ga) (nI_pos gb) (nI_pos gc) (by rw [nI_clamp ga, nI_clamp gc]; exact h4) (by rw [nI_clamp gb, nI_clamp gc]; exact h5) (fun i _ => rfl) hR.1 (Nat.le_trans (Nat.add_le_add_right hcat _) hR.2) hd
  rw [nI_clamp ga, nI_clamp gb, nI_clamp gc] at h9
  refine h9 (fun H1 locs1 hP1 _ hS1 => kk H1 locs1 ?_ hS1 ls hl)
  have e := fm_w_set (sh := sh) (rh := fm_rh X) (kA := fm_kA X) (M := M) (M' := (fm_row M.1 k1 (va_cpy (M.1 k0) (M.1 k1) a b c), M.2)) (k := k1) (x := .inr (0, n1)) (z := (fm_rh X k1, .inl (fm_kA X 0, n1, .inl (va_cpy (M.1 k0) (M.1 k1) a b c)))) hk1 (by simp only [fm_e, fm_ac, fm_row_same]) (fun x h8 => ⟨fm_row_ne _ _ h8, rfl⟩)
  rw [← e]
  exact hP1
theorem fr_copyl (hB : fm_B sh X cc nL own ret) {idx k0 k1 n0 n1 : Nat} {sp dp n : Int32} (a b c : Nat) (hd : decode cc pc = .ok (.invokestatic idx, 3)) (hf : fm_lkC own idx) (hk0 : sh[k0]? = some (.inr (1, n0))) (hk1 : sh[k1]? = some (.inr (1, n1))) (ea : sp = nI a) (eb : dp = nI b) (ec : n = nI c) (h4 : a + c ≤ n0) (h5 : b + c ≤ n1) (hn0 : n0 < 2 ^ 31) (hn1 : n1 < 2 ^ 31) (hcat : (st.map fun v => v.category).sum ≤ 8) (hR : 1 ≤ (fm_R X).frames ∧ 8 + (nativeFrameWords "java/lang/System" "arraycopy" 5 + 11) ≤ (fm_R X).locals)
    (kk : fm_W sh X nL (pc + 3) lv st (M.1, fm_row M.2 k1 (va_cpy (M.2 k0) (M.2 k1) a b c)) Q) : fm_W sh X nL pc lv (.int n :: .int dp :: .ref (fm_rh X k1) :: .int sp :: .ref (fm_rh X k0) :: st) M Q := fun H locs hP hS ls hl => by
  subst ea; subst eb; subst ec
  obtain ⟨h1, h2, h3, h6⟩ := hf
  have ga : a < 2 ^ 31 := by omega
  have gb : b < 2 ^ 31 := by omega
  have gc : c < 2 ^ 31 := by omega
  have h9 := va_copyl (p := fm_p X) (l := fm_l X) (e := fm_en X) (R := fm_R X) (m := fm_m X) (args := fm_ar X) (below := fm_bl X) (meth := fm_me X) (cells := 0) (slots := 0) (Q := Q) (ls := ls) (rest := st) (D := fm_Dg X) (tys := fm_tys (fm_kA X)) hB.x hB.b (by rw [hB.ml, hl.2.1]) hB.ow (hB.tb _ h1) (hB.tb _ h2) (hB.tb _ h3) (hB.tb _ h6) hB.K hP (hB.D.d _ _) hS k0 k1 1 1 (fm_w_get hk0) (fm_w_get hk1) rfl rfl rfl (sp := nI a) (dp := nI b) (n := nI c) (nI_pos ga) (nI_pos gb) (nI_pos gc) (by rw [nI_clamp ga, nI_clamp gc]; exact h4) (by rw [nI_clamp gb, nI_clamp gc]; exact h5) (fun i _ => rfl) hR.1 (Nat.le_trans (Nat.add_le_add_right hcat _) hR.2) hd
  rw [nI_clamp ga, nI_clamp gb, nI_clamp gc] at h9
  refine h9 (fun H1 locs1 hP1 _ hS1 => kk H1 locs1 ?_ hS1 ls hl)
  have e := fm_w_set (sh := sh) (rh := fm_rh X) (kA := fm_kA X) (M := M) (M' := (M.1, fm_row M.2 k1 (va_cpy (M.2 k0) (M.2 k1) a b c))) (k := k1) (x := .inr (1, n1)) (z := (fm_rh X k1, .inl (fm_kA X 1, n1, .inr (.inl (va_cpy (M.2 k0) (M.2 k1) a b c))))) hk1 (by simp only [fm_e, fm_ac, fm_row_same]) (fun x h8 => ⟨rfl, fm_row_ne _ _ h8⟩)
  rw [← e]
  exact hP1
end FMR
end
section
theorem fm_in {ws : List Cond} (ps : List Nat) (hp : ws = ps.filterMap (fun i => lw_tbl[i]?)) (h : ws.all goodWord = true) : ∀ w ∈ ws, w ∈ fm_tb := by
  intro w hw
  have h1 := List.all_eq_true.mp h w hw
  rw [hp] at hw
  obtain ⟨i, -, hi⟩ := List.mem_filterMap.mp hw
  exact List.mem_filter.mpr ⟨List.mem_of_getElem? hi, h1⟩
theorem fm_at {w : Cond} (i : Nat) (h : lw_tbl[i]? = some w) (hg : goodWord w = true) : w ∈ fm_tb := List.mem_filter.mpr ⟨List.mem_of_getElem? h, hg⟩
set_option maxRecDepth 20000 in
theorem inX0 : ∀ w ∈ u_ws RX0 TX0 1, w ∈ fm_tb := fm_in [240] (by decide +kernel) (by decide +kernel)
set_option maxRecDepth 20000 in
theorem inX1 : ∀ w ∈ u_ws RX1 TX1 5, w ∈ fm_tb := fm_in [207, 209, 211, 213, 215] (by decide +kernel) (by decide +kernel)
set_option maxRecDepth 20000 in
theorem inX2 : ∀ w ∈ u_ws RX2 TX2 2, w ∈ fm_tb := fm_in [228, 230] (by decide +kernel) (by decide +kernel)
set_option maxRecDepth 20000 in
theorem inX3 : ∀ w ∈ u_ws RX3 TX3 14, w ∈ fm_tb := fm_in [124, 126, 128, 130, 132, 134, 136, 138, 140, 142, 144, 146, 148, 150] (by decide +kernel) (by decide +kernel)
set_option maxRecDepth 20000 in
theorem inX4 : ∀ w ∈ u_ws RX4 TX4 3, w ∈ fm_tb := fm_in [170, 172, 174] (by decide +kernel) (by decide +kernel)
set_option maxRecDepth 20000 in
theorem inX5 : ∀ w ∈ u_ws RX5 TX5 7, w ∈ fm_tb := fm_in [262, 264, 266, 268, 270, 272, 274] (by decide +kernel) (by decide +kernel)
set_option maxRecDepth 20000 in
theorem inX6 : ∀ w ∈ u_ws RX6 TX6 4, w ∈ fm_tb := fm_in [185, 187, 189, 191] (by decide +kernel) (by decide +kernel)
set_option maxRecDepth 20000 in
theorem inX7 : ∀ w ∈ u_ws RX7 TX7 3, w ∈ fm_tb := fm_in [291, 293, 295] (by decide +kernel) (by decide +kernel)
set_option maxRecDepth 20000 in
theorem inX8 : ∀ w ∈ u_ws RX8 TX8 9, w ∈ fm_tb := fm_in [307, 309, 311, 313, 315, 317, 319, 321, 323] (by decide +kernel) (by decide +kernel)
set_option maxRecDepth 20000 in
theorem inX9 : ∀ w ∈ u_ws RX9 TX9 35, w ∈ fm_tb := fm_in [838, 840, 842, 844, 846, 848, 850, 852, 854, 856, 858, 860, 862, 864, 866, 868, 870, 872, 874, 876, 878, 880, 882, 884, 886, 888, 890, 892, 894, 896, 898, 900, 902, 904, 906] (by decide +kernel) (by decide +kernel)
abbrev mX0_init : MethodName × ByteArray × Nat × Option FieldType := (yX0_init, cX0_init, 1, none)
theorem wc_X0_init : Cond.code yX0_init cX0_init 1 none ∈ fm_tb := fm_at 237 (by decide +kernel) (by decide +kernel)
abbrev mX0_below : MethodName × ByteArray × Nat × Option FieldType := (yX0_below, cX0_below, 5, (some .long))
theorem wc_X0_below : Cond.code yX0_below cX0_below 5 (some .long) ∈ fm_tb := fm_at 663 (by decide +kernel) (by decide +kernel)
abbrev mX0_above : MethodName × ByteArray × Nat × Option FieldType := (yX0_above, cX0_above, 9, (some .long))
theorem wc_X0_above : Cond.code yX0_above cX0_above 9 (some .long) ∈ fm_tb := fm_at 620 (by decide +kernel) (by decide +kernel)
abbrev mX0_spread : MethodName × ByteArray × Nat × Option FieldType := (yX0_spread, cX0_spread, 8, none)
theorem wc_X0_spread : Cond.code yX0_spread cX0_spread 8 none ∈ fm_tb := fm_at 624 (by decide +kernel) (by decide +kernel)
abbrev mX0_sumOver : MethodName × ByteArray × Nat × Option FieldType := (yX0_sumOver, cX0_sumOver, 7, (some .long))
theorem wc_X0_sumOver : Cond.code yX0_sumOver cX0_sumOver 7 (some .long) ∈ fm_tb := fm_at 629 (by decide +kernel) (by decide +kernel)
abbrev mX0_weightAbove : MethodName × ByteArray × Nat × Option FieldType := (yX0_weightAbove, cX0_weightAbove, 5, (some .long))
theorem wc_X0_weightAbove : Cond.code yX0_weightAbove cX0_weightAbove 5 (some .long) ∈ fm_tb := fm_at 616 (by decide +kernel) (by decide +kernel)
abbrev mX0_mostOf : MethodName × ByteArray × Nat × Option FieldType := (yX0_mostOf, cX0_mostOf, 10, (some .int))
theorem wc_X0_mostOf : Cond.code yX0_mostOf cX0_mostOf 10 (some .int) ∈ fm_tb := fm_at 611 (by decide +kernel) (by decide +kernel)
abbrev mX1_init : MethodName × ByteArray × Nat × Option FieldType := (yX1_init, cX1_init, 1, none)
theorem wc_X1_init : Cond.code yX1_init cX1_init 1 none ∈ fm_tb := fm_at 200 (by decide +kernel) (by decide +kernel)
abbrev mX1_draw : MethodName × ByteArray × Nat × Option FieldType := (yX1_draw, cX1_draw, 4, (some .int))
theorem wc_X1_draw : Cond.code yX1_draw cX1_draw 4 (some .int) ∈ fm_tb := fm_at 540 (by decide +kernel) (by decide +kernel)
abbrev mX1_meet : MethodName × ByteArray × Nat × Option FieldType := (yX1_meet, cX1_meet, 9, (some .int))
theorem wc_X1_meet : Cond.code yX1_meet cX1_meet 9 (some .int) ∈ fm_tb := fm_at 544 (by decide +kernel) (by decide +kernel)
abbrev mX1_met : MethodName × ByteArray × Nat × Option FieldType := (yX1_met, cX1_met, 4, (some .int))
theorem wc_X1_met : Cond.code yX1_met cX1_met 4 (some .int) ∈ fm_tb := fm_at 549 (by decide +kernel) (by decide +kernel)
abbrev mX1_firstPlace : MethodName × ByteArray × Nat × Option FieldType := (yX1_firstPlace, cX1_firstPlace, 6, (some .int))
theorem wc_X1_firstPlace : Cond.code yX1_firstPlace cX1_firstPlace 6 (some .int) ∈ fm_tb := fm_at 552 (by decide +kernel) (by decide +kernel)
abbrev mX1_ofNode : MethodName × ByteArray × Nat × Option FieldType := (yX1_ofNode, cX1_ofNode, 3, (some .int))
theorem wc_X1_ofNode : Cond.code yX1_ofNode cX1_ofNode 3 (some .int) ∈ fm_tb := fm_at 570 (by decide +kernel) (by decide +kernel)
abbrev mX2_init : MethodName × ByteArray × Nat × Option FieldType := (yX2_init, cX2_init, 1, none)
theorem wc_X2_init : Cond.code yX2_init cX2_init 1 none ∈ fm_tb := fm_at 222 (by decide +kernel) (by decide +kernel)
abbrev mX2_listCuts : MethodName × ByteArray × Nat × Option FieldType := (yX2_listCuts, cX2_listCuts, 4, (some .int))
theorem wc_X2_listCuts : Cond.code yX2_listCuts cX2_listCuts 4 (some .int) ∈ fm_tb := fm_at 582 (by decide +kernel) (by decide +kernel)
abbrev mX2_listPaths : MethodName × ByteArray × Nat × Option FieldType := (yX2_listPaths, cX2_listPaths, 4, (some .int))
theorem wc_X2_listPaths : Cond.code yX2_listPaths cX2_listPaths 4 (some .int) ∈ fm_tb := fm_at 604 (by decide +kernel) (by decide +kernel)
abbrev mX2_keepsUp : MethodName × ByteArray × Nat × Option FieldType := (yX2_keepsUp, cX2_keepsUp, 5, (some .long))
theorem wc_X2_keepsUp : Cond.code yX2_keepsUp cX2_keepsUp 5 (some .long) ∈ fm_tb := fm_at 607 (by decide +kernel) (by decide +kernel)
abbrev mX2_list : MethodName × ByteArray × Nat × Option FieldType := (yX2_list, cX2_list, 6, (some .int))
theorem wc_X2_list : Cond.code yX2_list cX2_list 6 (some .int) ∈ fm_tb := fm_at 586 (by decide +kernel) (by decide +kernel)
abbrev mX2_keep : MethodName × ByteArray × Nat × Option FieldType := (yX2_keep, cX2_keep, 2, none)
theorem wc_X2_keep : Cond.code yX2_keep cX2_keep 2 none ∈ fm_tb := fm_at 600 (by decide +kernel) (by decide +kernel)
abbrev mX2_isLeast : MethodName × ByteArray × Nat × Option FieldType := (yX2_isLeast, cX2_isLeast, 6, (some .boolean))
theorem wc_X2_isLeast : Cond.code yX2_isLeast cX2_isLeast 6 (some .boolean) ∈ fm_tb := fm_at 595 (by decide +kernel) (by decide +kernel)
abbrev mX2_bitsOf : MethodName × ByteArray × Nat × Option FieldType := (yX2_bitsOf, cX2_bitsOf, 2, (some .int))
theorem wc_X2_bitsOf : Cond.code yX2_bitsOf cX2_bitsOf 2 (some .int) ∈ fm_tb := fm_at 646 (by decide +kernel) (by decide +kernel)
abbrev mX2_has : MethodName × ByteArray × Nat × Option FieldType := (yX2_has, cX2_has, 3, (some .boolean))
theorem wc_X2_has : Cond.code yX2_has cX2_has 3 (some .boolean) ∈ fm_tb := fm_at 730 (by decide +kernel) (by decide +kernel)
abbrev mX2_partsTogether : MethodName × ByteArray × Nat × Option FieldType := (yX2_partsTogether, cX2_partsTogether, 3, (some .int))
theorem wc_X2_partsTogether : Cond.code yX2_partsTogether cX2_partsTogether 3 (some .int) ∈ fm_tb := fm_at 706 (by decide +kernel) (by decide +kernel)
abbrev mX3_init : MethodName × ByteArray × Nat × Option FieldType := (yX3_init, cX3_init, 1, none)
theorem wc_X3_init : Cond.code yX3_init cX3_init 1 none ∈ fm_tb := fm_at 91 (by decide +kernel) (by decide +kernel)
abbrev mX3_hasPart : MethodName × ByteArray × Nat × Option FieldType := (yX3_hasPart, cX3_hasPart, 2, (some .boolean))
theorem wc_X3_hasPart : Cond.code yX3_hasPart cX3_hasPart 2 (some .boolean) ∈ fm_tb := fm_at 366 (by decide +kernel) (by decide +kernel)
abbrev mX3_hasPlace : MethodName × ByteArray × Nat × Option FieldType := (yX3_hasPlace, cX3_hasPlace, 2, (some .boolean))
theorem wc_X3_hasPlace : Cond.code yX3_hasPlace cX3_hasPlace 2 (some .boolean) ∈ fm_tb := fm_at 511 (by decide +kernel) (by decide +kernel)
abbrev mX3_hasGate : MethodName × ByteArray × Nat × Option FieldType := (yX3_hasGate, cX3_hasGate, 2, (some .boolean))
theorem wc_X3_hasGate : Cond.code yX3_hasGate cX3_hasGate 2 (some .boolean) ∈ fm_tb := fm_at 358 (by decide +kernel) (by decide +kernel)
abbrev mX3_hasCause : MethodName × ByteArray × Nat × Option FieldType := (yX3_hasCause, cX3_hasCause, 2, (some .boolean))
theorem wc_X3_hasCause : Cond.code yX3_hasCause cX3_hasCause 2 (some .boolean) ∈ fm_tb := fm_at 402 (by decide +kernel) (by decide +kernel)
abbrev mX3_hasBits : MethodName × ByteArray × Nat × Option FieldType := (yX3_hasBits, cX3_hasBits, 2, (some .boolean))
theorem wc_X3_hasBits : Cond.code yX3_hasBits cX3_hasBits 2 (some .boolean) ∈ fm_tb := fm_at 390 (by decide +kernel) (by decide +kernel)
abbrev mX3_addPart : MethodName × ByteArray × Nat × Option FieldType := (yX3_addPart, cX3_addPart, 2, (some .int))
theorem wc_X3_addPart : Cond.code yX3_addPart cX3_addPart 2 (some .int) ∈ fm_tb := fm_at 336 (by decide +kernel) (by decide +kernel)
abbrev mX3_addGate : MethodName × ByteArray × Nat × Option FieldType := (yX3_addGate, cX3_addGate, 3, (some .int))
theorem wc_X3_addGate : Cond.code yX3_addGate cX3_addGate 3 (some .int) ∈ fm_tb := fm_at 350 (by decide +kernel) (by decide +kernel)
abbrev mX3_addInput : MethodName × ByteArray × Nat × Option FieldType := (yX3_addInput, cX3_addInput, 4, (some .int))
theorem wc_X3_addInput : Cond.code yX3_addInput cX3_addInput 4 (some .int) ∈ fm_tb := fm_at 370 (by decide +kernel) (by decide +kernel)
abbrev mX3_addCause : MethodName × ByteArray × Nat × Option FieldType := (yX3_addCause, cX3_addCause, 3, (some .int))
theorem wc_X3_addCause : Cond.code yX3_addCause cX3_addCause 3 (some .int) ∈ fm_tb := fm_at 394 (by decide +kernel) (by decide +kernel)
abbrev mX3_ofPart : MethodName × ByteArray × Nat × Option FieldType := (yX3_ofPart, cX3_ofPart, 3, (some .int))
theorem wc_X3_ofPart : Cond.code yX3_ofPart cX3_ofPart 3 (some .int) ∈ fm_tb := fm_at 410 (by decide +kernel) (by decide +kernel)
abbrev mX3_ofGate : MethodName × ByteArray × Nat × Option FieldType := (yX3_ofGate, cX3_ofGate, 4, (some .int))
theorem wc_X3_ofGate : Cond.code yX3_ofGate cX3_ofGate 4 (some .int) ∈ fm_tb := fm_at 419 (by decide +kernel) (by decide +kernel)
abbrev mX3_ofCause : MethodName × ByteArray × Nat × Option FieldType := (yX3_ofCause, cX3_ofCause, 3, (some .int))
theorem wc_X3_ofCause : Cond.code yX3_ofCause cX3_ofCause 3 (some .int) ∈ fm_tb := fm_at 424 (by decide +kernel) (by decide +kernel)
abbrev mX3_topGate : MethodName × ByteArray × Nat × Option FieldType := (yX3_topGate, cX3_topGate, 1, (some .int))
theorem wc_X3_topGate : Cond.code yX3_topGate cX3_topGate 1 (some .int) ∈ fm_tb := fm_at 382 (by decide +kernel) (by decide +kernel)
abbrev mX3_placeOf : MethodName × ByteArray × Nat × Option FieldType := (yX3_placeOf, cX3_placeOf, 3, (some .int))
theorem wc_X3_placeOf : Cond.code yX3_placeOf cX3_placeOf 3 (some .int) ∈ fm_tb := fm_at 415 (by decide +kernel) (by decide +kernel)
abbrev mX3_putAt : MethodName × ByteArray × Nat × Option FieldType := (yX3_putAt, cX3_putAt, 5, (some .int))
theorem wc_X3_putAt : Cond.code yX3_putAt cX3_putAt 5 (some .int) ∈ fm_tb := fm_at 515 (by decide +kernel) (by decide +kernel)
abbrev mX3_undergo : MethodName × ByteArray × Nat × Option FieldType := (yX3_undergo, cX3_undergo, 3, none)
theorem wc_X3_undergo : Cond.code yX3_undergo cX3_undergo 3 none ∈ fm_tb := fm_at 718 (by decide +kernel) (by decide +kernel)
abbrev mX3_topTable : MethodName × ByteArray × Nat × Option FieldType := (yX3_topTable, cX3_topTable, 1, (some .long))
theorem wc_X3_topTable : Cond.code yX3_topTable cX3_topTable 1 (some .long) ∈ fm_tb := fm_at 534 (by decide +kernel) (by decide +kernel)
abbrev mX3_tableOf : MethodName × ByteArray × Nat × Option FieldType := (yX3_tableOf, cX3_tableOf, 3, (some .long))
theorem wc_X3_tableOf : Cond.code yX3_tableOf cX3_tableOf 3 (some .long) ∈ fm_tb := fm_at 485 (by decide +kernel) (by decide +kernel)
abbrev mX3_gateTable : MethodName × ByteArray × Nat × Option FieldType := (yX3_gateTable, cX3_gateTable, 4, (some .long))
theorem wc_X3_gateTable : Cond.code yX3_gateTable cX3_gateTable 4 (some .long) ∈ fm_tb := fm_at 489 (by decide +kernel) (by decide +kernel)
abbrev mX3_countInputs : MethodName × ByteArray × Nat × Option FieldType := (yX3_countInputs, cX3_countInputs, 7, none)
theorem wc_X3_countInputs : Cond.code yX3_countInputs cX3_countInputs 7 none ∈ fm_tb := fm_at 493 (by decide +kernel) (by decide +kernel)
abbrev mX3_inputTable : MethodName × ByteArray × Nat × Option FieldType := (yX3_inputTable, cX3_inputTable, 3, (some .long))
theorem wc_X3_inputTable : Cond.code yX3_inputTable cX3_inputTable 3 (some .long) ∈ fm_tb := fm_at 498 (by decide +kernel) (by decide +kernel)
abbrev mX3_ifWorks : MethodName × ByteArray × Nat × Option FieldType := (yX3_ifWorks, cX3_ifWorks, 5, (some .long))
theorem wc_X3_ifWorks : Cond.code yX3_ifWorks cX3_ifWorks 5 (some .long) ∈ fm_tb := fm_at 555 (by decide +kernel) (by decide +kernel)
abbrev mX3_ifFails : MethodName × ByteArray × Nat × Option FieldType := (yX3_ifFails, cX3_ifFails, 5, (some .long))
theorem wc_X3_ifFails : Cond.code yX3_ifFails cX3_ifFails 5 (some .long) ∈ fm_tb := fm_at 558 (by decide +kernel) (by decide +kernel)
abbrev mX3_copyFrom : MethodName × ByteArray × Nat × Option FieldType := (yX3_copyFrom, cX3_copyFrom, 2, none)
theorem wc_X3_copyFrom : Cond.code yX3_copyFrom cX3_copyFrom 2 none ∈ fm_tb := fm_at 527 (by decide +kernel) (by decide +kernel)
abbrev mX4_init : MethodName × ByteArray × Nat × Option FieldType := (yX4_init, cX4_init, 3, none)
theorem wc_X4_init : Cond.code yX4_init cX4_init 3 none ∈ fm_tb := fm_at 159 (by decide +kernel) (by decide +kernel)
abbrev mX4_add : MethodName × ByteArray × Nat × Option FieldType := (yX4_add, cX4_add, 3, (some .int))
theorem wc_X4_add : Cond.code yX4_add cX4_add 3 (some .int) ∈ fm_tb := fm_at 690 (by decide +kernel) (by decide +kernel)
abbrev mX4_empty : MethodName × ByteArray × Nat × Option FieldType := (yX4_empty, cX4_empty, 1, (some .int))
theorem wc_X4_empty : Cond.code yX4_empty cX4_empty 1 (some .int) ∈ fm_tb := fm_at 686 (by decide +kernel) (by decide +kernel)
abbrev mX4_copyFrom : MethodName × ByteArray × Nat × Option FieldType := (yX4_copyFrom, cX4_copyFrom, 2, none)
theorem wc_X4_copyFrom : Cond.code yX4_copyFrom cX4_copyFrom 2 none ∈ fm_tb := fm_at 751 (by decide +kernel) (by decide +kernel)
abbrev mX5_init : MethodName × ByteArray × Nat × Option FieldType := (yX5_init, cX5_init, 1, none)
theorem wc_X5_init : Cond.code yX5_init cX5_init 1 none ∈ fm_tb := fm_at 247 (by decide +kernel) (by decide +kernel)
abbrev mX5_addSign : MethodName × ByteArray × Nat × Option FieldType := (yX5_addSign, cX5_addSign, 2, (some .int))
theorem wc_X5_addSign : Cond.code yX5_addSign cX5_addSign 2 (some .int) ∈ fm_tb := fm_at 433 (by decide +kernel) (by decide +kernel)
abbrev mX5_parse : MethodName × ByteArray × Nat × Option FieldType := (yX5_parse, cX5_parse, 2, (some .boolean))
theorem wc_X5_parse : Cond.code yX5_parse cX5_parse 2 (some .boolean) ∈ fm_tb := fm_at 441 (by decide +kernel) (by decide +kernel)
abbrev mX5_parseClause : MethodName × ByteArray × Nat × Option FieldType := (yX5_parseClause, cX5_parseClause, 1, (some .boolean))
theorem wc_X5_parseClause : Cond.code yX5_parseClause cX5_parseClause 1 (some .boolean) ∈ fm_tb := fm_at 445 (by decide +kernel) (by decide +kernel)
abbrev mX5_parseInput : MethodName × ByteArray × Nat × Option FieldType := (yX5_parseInput, cX5_parseInput, 2, (some .boolean))
theorem wc_X5_parseInput : Cond.code yX5_parseInput cX5_parseInput 2 (some .boolean) ∈ fm_tb := fm_at 465 (by decide +kernel) (by decide +kernel)
abbrev mX5_parseCause : MethodName × ByteArray × Nat × Option FieldType := (yX5_parseCause, cX5_parseCause, 5, (some .boolean))
theorem wc_X5_parseCause : Cond.code yX5_parseCause cX5_parseCause 5 (some .boolean) ∈ fm_tb := fm_at 469 (by decide +kernel) (by decide +kernel)
abbrev mX5_passes : MethodName × ByteArray × Nat × Option FieldType := (yX5_passes, cX5_passes, 2, (some .boolean))
theorem wc_X5_passes : Cond.code yX5_passes cX5_passes 2 (some .boolean) ∈ fm_tb := fm_at 449 (by decide +kernel) (by decide +kernel)
abbrev mX5_digits : MethodName × ByteArray × Nat × Option FieldType := (yX5_digits, cX5_digits, 4, (some .int))
theorem wc_X5_digits : Cond.code yX5_digits cX5_digits 4 (some .int) ∈ fm_tb := fm_at 453 (by decide +kernel) (by decide +kernel)
abbrev mX5_isDigit : MethodName × ByteArray × Nat × Option FieldType := (yX5_isDigit, cX5_isDigit, 1, (some .boolean))
theorem wc_X5_isDigit : Cond.code yX5_isDigit cX5_isDigit 1 (some .boolean) ∈ fm_tb := fm_at 456 (by decide +kernel) (by decide +kernel)
abbrev mX5_keep : MethodName × ByteArray × Nat × Option FieldType := (yX5_keep, cX5_keep, 4, (some .boolean))
theorem wc_X5_keep : Cond.code yX5_keep cX5_keep 4 (some .boolean) ∈ fm_tb := fm_at 461 (by decide +kernel) (by decide +kernel)
abbrev mX6_init : MethodName × ByteArray × Nat × Option FieldType := (yX6_init, cX6_init, 1, none)
theorem wc_X6_init : Cond.code yX6_init cX6_init 1 none ∈ fm_tb := fm_at 85 (by decide +kernel) (by decide +kernel)
abbrev mX6_copyFrom : MethodName × ByteArray × Nat × Option FieldType := (yX6_copyFrom, cX6_copyFrom, 2, none)
theorem wc_X6_copyFrom : Cond.code yX6_copyFrom cX6_copyFrom 2 none ∈ fm_tb := fm_at 746 (by decide +kernel) (by decide +kernel)
abbrev mX7_init : MethodName × ByteArray × Nat × Option FieldType := (yX7_init, cX7_init, 1, none)
theorem wc_X7_init : Cond.code yX7_init cX7_init 1 none ∈ fm_tb := fm_at 283 (by decide +kernel) (by decide +kernel)
abbrev mX7_become : MethodName × ByteArray × Nat × Option FieldType := (yX7_become, cX7_become, 4, none)
theorem wc_X7_become : Cond.code yX7_become cX7_become 4 none ∈ fm_tb := fm_at 771 (by decide +kernel) (by decide +kernel)
abbrev mX7_hasPlace : MethodName × ByteArray × Nat × Option FieldType := (yX7_hasPlace, cX7_hasPlace, 2, (some .boolean))
theorem wc_X7_hasPlace : Cond.code yX7_hasPlace cX7_hasPlace 2 (some .boolean) ∈ fm_tb := fm_at 779 (by decide +kernel) (by decide +kernel)
abbrev mX7_hasRun : MethodName × ByteArray × Nat × Option FieldType := (yX7_hasRun, cX7_hasRun, 3, (some .boolean))
theorem wc_X7_hasRun : Cond.code yX7_hasRun cX7_hasRun 3 (some .boolean) ∈ fm_tb := fm_at 795 (by decide +kernel) (by decide +kernel)
abbrev mX7_asItem : MethodName × ByteArray × Nat × Option FieldType := (yX7_asItem, cX7_asItem, 3, (some .long))
theorem wc_X7_asItem : Cond.code yX7_asItem cX7_asItem 3 (some .long) ∈ fm_tb := fm_at 783 (by decide +kernel) (by decide +kernel)
abbrev mX8_init : MethodName × ByteArray × Nat × Option FieldType := (yX8_init, cX8_init, 2, none)
theorem wc_X8_init : Cond.code yX8_init cX8_init 2 none ∈ fm_tb := fm_at 77 (by decide +kernel) (by decide +kernel)
abbrev mX8_part : MethodName × ByteArray × Nat × Option FieldType := (yX8_part, cX8_part, 2, (some .int))
theorem wc_X8_part : Cond.code yX8_part cX8_part 2 (some .int) ∈ fm_tb := fm_at 329 (by decide +kernel) (by decide +kernel)
abbrev mX8_gate : MethodName × ByteArray × Nat × Option FieldType := (yX8_gate, cX8_gate, 3, (some .int))
theorem wc_X8_gate : Cond.code yX8_gate cX8_gate 3 (some .int) ∈ fm_tb := fm_at 340 (by decide +kernel) (by decide +kernel)
abbrev mX8_turn : MethodName × ByteArray × Nat × Option FieldType := (yX8_turn, cX8_turn, 6, (some .int))
theorem wc_X8_turn : Cond.code yX8_turn cX8_turn 6 (some .int) ∈ fm_tb := fm_at 354 (by decide +kernel) (by decide +kernel)
abbrev mX8_join : MethodName × ByteArray × Nat × Option FieldType := (yX8_join, cX8_join, 5, (some .int))
theorem wc_X8_join : Cond.code yX8_join cX8_join 5 (some .int) ∈ fm_tb := fm_at 362 (by decide +kernel) (by decide +kernel)
abbrev mX8_drop : MethodName × ByteArray × Nat × Option FieldType := (yX8_drop, cX8_drop, 3, (some .int))
theorem wc_X8_drop : Cond.code yX8_drop cX8_drop 3 (some .int) ∈ fm_tb := fm_at 374 (by decide +kernel) (by decide +kernel)
abbrev mX8_top : MethodName × ByteArray × Nat × Option FieldType := (yX8_top, cX8_top, 4, (some .int))
theorem wc_X8_top : Cond.code yX8_top cX8_top 4 (some .int) ∈ fm_tb := fm_at 378 (by decide +kernel) (by decide +kernel)
abbrev mX8_cause : MethodName × ByteArray × Nat × Option FieldType := (yX8_cause, cX8_cause, 3, (some .int))
theorem wc_X8_cause : Cond.code yX8_cause cX8_cause 3 (some .int) ∈ fm_tb := fm_at 386 (by decide +kernel) (by decide +kernel)
abbrev mX8_odds : MethodName × ByteArray × Nat × Option FieldType := (yX8_odds, cX8_odds, 9, (some .int))
theorem wc_X8_odds : Cond.code yX8_odds cX8_odds 9 (some .int) ∈ fm_tb := fm_at 398 (by decide +kernel) (by decide +kernel)
abbrev mX8_of : MethodName × ByteArray × Nat × Option FieldType := (yX8_of, cX8_of, 4, (some .int))
theorem wc_X8_of : Cond.code yX8_of cX8_of 4 (some .int) ∈ fm_tb := fm_at 406 (by decide +kernel) (by decide +kernel)
abbrev mX8_feed : MethodName × ByteArray × Nat × Option FieldType := (yX8_feed, cX8_feed, 2, (some .int))
theorem wc_X8_feed : Cond.code yX8_feed cX8_feed 2 (some .int) ∈ fm_tb := fm_at 429 (by decide +kernel) (by decide +kernel)
abbrev mX8_read : MethodName × ByteArray × Nat × Option FieldType := (yX8_read, cX8_read, 4, (some .int))
theorem wc_X8_read : Cond.code yX8_read cX8_read 4 (some .int) ∈ fm_tb := fm_at 437 (by decide +kernel) (by decide +kernel)
abbrev mX8_obey : MethodName × ByteArray × Nat × Option FieldType := (yX8_obey, cX8_obey, 4, (some .int))
theorem wc_X8_obey : Cond.code yX8_obey cX8_obey 4 (some .int) ∈ fm_tb := fm_at 473 (by decide +kernel) (by decide +kernel)
abbrev mX8_fails : MethodName × ByteArray × Nat × Option FieldType := (yX8_fails, cX8_fails, 5, (some .int))
theorem wc_X8_fails : Cond.code yX8_fails cX8_fails 5 (some .int) ∈ fm_tb := fm_at 481 (by decide +kernel) (by decide +kernel)
abbrev mX8_move : MethodName × ByteArray × Nat × Option FieldType := (yX8_move, cX8_move, 4, (some .int))
theorem wc_X8_move : Cond.code yX8_move cX8_move 4 (some .int) ∈ fm_tb := fm_at 507 (by decide +kernel) (by decide +kernel)
abbrev mX8_sift : MethodName × ByteArray × Nat × Option FieldType := (yX8_sift, cX8_sift, 4, (some .int))
theorem wc_X8_sift : Cond.code yX8_sift cX8_sift 4 (some .int) ∈ fm_tb := fm_at 519 (by decide +kernel) (by decide +kernel)
abbrev mX8_sifted : MethodName × ByteArray × Nat × Option FieldType := (yX8_sifted, cX8_sifted, 8, (some .int))
theorem wc_X8_sifted : Cond.code yX8_sifted cX8_sifted 8 (some .int) ∈ fm_tb := fm_at 523 (by decide +kernel) (by decide +kernel)
abbrev mX8_at : MethodName × ByteArray × Nat × Option FieldType := (yX8_at, cX8_at, 2, (some .int))
theorem wc_X8_at : Cond.code yX8_at cX8_at 2 (some .int) ∈ fm_tb := fm_at 562 (by decide +kernel) (by decide +kernel)
abbrev mX8_node : MethodName × ByteArray × Nat × Option FieldType := (yX8_node, cX8_node, 3, (some .int))
theorem wc_X8_node : Cond.code yX8_node cX8_node 3 (some .int) ∈ fm_tb := fm_at 566 (by decide +kernel) (by decide +kernel)
abbrev mX8_told : MethodName × ByteArray × Nat × Option FieldType := (yX8_told, cX8_told, 3, (some .int))
theorem wc_X8_told : Cond.code yX8_told cX8_told 3 (some .int) ∈ fm_tb := fm_at 574 (by decide +kernel) (by decide +kernel)
abbrev mX8_toldOfTop : MethodName × ByteArray × Nat × Option FieldType := (yX8_toldOfTop, cX8_toldOfTop, 5, (some .int))
theorem wc_X8_toldOfTop : Cond.code yX8_toldOfTop cX8_toldOfTop 5 (some .int) ∈ fm_tb := fm_at 578 (by decide +kernel) (by decide +kernel)
abbrev mX8_sameness : MethodName × ByteArray × Nat × Option FieldType := (yX8_sameness, cX8_sameness, 2, (some .int))
theorem wc_X8_sameness : Cond.code yX8_sameness cX8_sameness 2 (some .int) ∈ fm_tb := fm_at 633 (by decide +kernel) (by decide +kernel)
abbrev mX8_cut : MethodName × ByteArray × Nat × Option FieldType := (yX8_cut, cX8_cut, 2, (some .int))
theorem wc_X8_cut : Cond.code yX8_cut cX8_cut 2 (some .int) ∈ fm_tb := fm_at 638 (by decide +kernel) (by decide +kernel)
abbrev mX8_path : MethodName × ByteArray × Nat × Option FieldType := (yX8_path, cX8_path, 2, (some .int))
theorem wc_X8_path : Cond.code yX8_path cX8_path 2 (some .int) ∈ fm_tb := fm_at 650 (by decide +kernel) (by decide +kernel)
abbrev mX8_listCutsNow : MethodName × ByteArray × Nat × Option FieldType := (yX8_listCutsNow, cX8_listCutsNow, 1, (some .int))
theorem wc_X8_listCutsNow : Cond.code yX8_listCutsNow cX8_listCutsNow 1 (some .int) ∈ fm_tb := fm_at 642 (by decide +kernel) (by decide +kernel)
abbrev mX8_chance : MethodName × ByteArray × Nat × Option FieldType := (yX8_chance, cX8_chance, 5, (some .long))
theorem wc_X8_chance : Cond.code yX8_chance cX8_chance 5 (some .long) ∈ fm_tb := fm_at 654 (by decide +kernel) (by decide +kernel)
abbrev mX8_given : MethodName × ByteArray × Nat × Option FieldType := (yX8_given, cX8_given, 8, (some .long))
theorem wc_X8_given : Cond.code yX8_given cX8_given 8 (some .long) ∈ fm_tb := fm_at 673 (by decide +kernel) (by decide +kernel)
abbrev mX8_weight : MethodName × ByteArray × Nat × Option FieldType := (yX8_weight, cX8_weight, 6, (some .long))
theorem wc_X8_weight : Cond.code yX8_weight cX8_weight 6 (some .long) ∈ fm_tb := fm_at 677 (by decide +kernel) (by decide +kernel)
abbrev mX8_see : MethodName × ByteArray × Nat × Option FieldType := (yX8_see, cX8_see, 3, (some .int))
theorem wc_X8_see : Cond.code yX8_see cX8_see 3 (some .int) ∈ fm_tb := fm_at 682 (by decide +kernel) (by decide +kernel)
abbrev mX8_fits : MethodName × ByteArray × Nat × Option FieldType := (yX8_fits, cX8_fits, 6, (some .int))
theorem wc_X8_fits : Cond.code yX8_fits cX8_fits 6 (some .int) ∈ fm_tb := fm_at 694 (by decide +kernel) (by decide +kernel)
abbrev mX8_isAsSeen : MethodName × ByteArray × Nat × Option FieldType := (yX8_isAsSeen, cX8_isAsSeen, 5, (some .boolean))
theorem wc_X8_isAsSeen : Cond.code yX8_isAsSeen cX8_isAsSeen 5 (some .boolean) ∈ fm_tb := fm_at 698 (by decide +kernel) (by decide +kernel)
abbrev mX8_mean : MethodName × ByteArray × Nat × Option FieldType := (yX8_mean, cX8_mean, 3, (some .long))
theorem wc_X8_mean : Cond.code yX8_mean cX8_mean 3 (some .long) ∈ fm_tb := fm_at 702 (by decide +kernel) (by decide +kernel)
abbrev mX8_event : MethodName × ByteArray × Nat × Option FieldType := (yX8_event, cX8_event, 5, (some .int))
theorem wc_X8_event : Cond.code yX8_event cX8_event 5 (some .int) ∈ fm_tb := fm_at 710 (by decide +kernel) (by decide +kernel)
abbrev mX8_after : MethodName × ByteArray × Nat × Option FieldType := (yX8_after, cX8_after, 4, (some .int))
theorem wc_X8_after : Cond.code yX8_after cX8_after 4 (some .int) ∈ fm_tb := fm_at 714 (by decide +kernel) (by decide +kernel)
abbrev mX8_book : MethodName × ByteArray × Nat × Option FieldType := (yX8_book, cX8_book, 2, (some .int))
theorem wc_X8_book : Cond.code yX8_book cX8_book 2 (some .int) ∈ fm_tb := fm_at 722 (by decide +kernel) (by decide +kernel)
abbrev mX8_looked : MethodName × ByteArray × Nat × Option FieldType := (yX8_looked, cX8_looked, 2, (some .int))
theorem wc_X8_looked : Cond.code yX8_looked cX8_looked 2 (some .int) ∈ fm_tb := fm_at 726 (by decide +kernel) (by decide +kernel)
abbrev mX8_judge : MethodName × ByteArray × Nat × Option FieldType := (yX8_judge, cX8_judge, 5, (some .int))
theorem wc_X8_judge : Cond.code yX8_judge cX8_judge 5 (some .int) ∈ fm_tb := fm_at 734 (by decide +kernel) (by decide +kernel)
abbrev mX8_image : MethodName × ByteArray × Nat × Option FieldType := (yX8_image, cX8_image, 1, (some .int))
theorem wc_X8_image : Cond.code yX8_image cX8_image 1 (some .int) ∈ fm_tb := fm_at 742 (by decide +kernel) (by decide +kernel)
abbrev mX8_undo : MethodName × ByteArray × Nat × Option FieldType := (yX8_undo, cX8_undo, 1, (some .int))
theorem wc_X8_undo : Cond.code yX8_undo cX8_undo 1 (some .int) ∈ fm_tb := fm_at 759 (by decide +kernel) (by decide +kernel)
abbrev mX8_count : MethodName × ByteArray × Nat × Option FieldType := (yX8_count, cX8_count, 2, (some .int))
theorem wc_X8_count : Cond.code yX8_count cX8_count 2 (some .int) ∈ fm_tb := fm_at 763 (by decide +kernel) (by decide +kernel)
abbrev mX8_tape : MethodName × ByteArray × Nat × Option FieldType := (yX8_tape, cX8_tape, 5, (some .int))
theorem wc_X8_tape : Cond.code yX8_tape cX8_tape 5 (some .int) ∈ fm_tb := fm_at 767 (by decide +kernel) (by decide +kernel)
abbrev mX8_item : MethodName × ByteArray × Nat × Option FieldType := (yX8_item, cX8_item, 6, (some .int))
theorem wc_X8_item : Cond.code yX8_item cX8_item 6 (some .int) ∈ fm_tb := fm_at 775 (by decide +kernel) (by decide +kernel)
abbrev mX8_peek : MethodName × ByteArray × Nat × Option FieldType := (yX8_peek, cX8_peek, 4, (some .long))
theorem wc_X8_peek : Cond.code yX8_peek cX8_peek 4 (some .long) ∈ fm_tb := fm_at 787 (by decide +kernel) (by decide +kernel)
abbrev mX8_shift : MethodName × ByteArray × Nat × Option FieldType := (yX8_shift, cX8_shift, 8, (some .int))
theorem wc_X8_shift : Cond.code yX8_shift cX8_shift 8 (some .int) ∈ fm_tb := fm_at 791 (by decide +kernel) (by decide +kernel)
abbrev mX8_tapeOf : MethodName × ByteArray × Nat × Option FieldType := (yX8_tapeOf, cX8_tapeOf, 2, (some (.object "FaultGraph$Tape")))
theorem wc_X8_tapeOf : Cond.code yX8_tapeOf cX8_tapeOf 2 (some (.object "FaultGraph$Tape")) ∈ fm_tb := fm_at 738 (by decide +kernel) (by decide +kernel)
abbrev mX8_isOdds : MethodName × ByteArray × Nat × Option FieldType := (yX8_isOdds, cX8_isOdds, 1, (some .boolean))
theorem wc_X8_isOdds : Cond.code yX8_isOdds cX8_isOdds 1 (some .boolean) ∈ fm_tb := fm_at 332 (by decide +kernel) (by decide +kernel)
abbrev mX8_isKind : MethodName × ByteArray × Nat × Option FieldType := (yX8_isKind, cX8_isKind, 1, (some .boolean))
theorem wc_X8_isKind : Cond.code yX8_isKind cX8_isKind 1 (some .boolean) ∈ fm_tb := fm_at 343 (by decide +kernel) (by decide +kernel)
abbrev mX8_isNeed : MethodName × ByteArray × Nat × Option FieldType := (yX8_isNeed, cX8_isNeed, 1, (some .boolean))
theorem wc_X8_isNeed : Cond.code yX8_isNeed cX8_isNeed 1 (some .boolean) ∈ fm_tb := fm_at 346 (by decide +kernel) (by decide +kernel)
abbrev mX8_isLine : MethodName × ByteArray × Nat × Option FieldType := (yX8_isLine, cX8_isLine, 1, (some .boolean))
theorem wc_X8_isLine : Cond.code yX8_isLine cX8_isLine 1 (some .boolean) ∈ fm_tb := fm_at 657 (by decide +kernel) (by decide +kernel)
abbrev mX8_says : MethodName × ByteArray × Nat × Option FieldType := (yX8_says, cX8_says, 3, (some .boolean))
theorem wc_X8_says : Cond.code yX8_says cX8_says 3 (some .boolean) ∈ fm_tb := fm_at 503 (by decide +kernel) (by decide +kernel)
abbrev mX8_lowest : MethodName × ByteArray × Nat × Option FieldType := (yX8_lowest, cX8_lowest, 9, (some .long))
theorem wc_X8_lowest : Cond.code yX8_lowest cX8_lowest 9 (some .long) ∈ fm_tb := fm_at 666 (by decide +kernel) (by decide +kernel)
abbrev mX8_commonDivisor : MethodName × ByteArray × Nat × Option FieldType := (yX8_commonDivisor, cX8_commonDivisor, 11, (some .long))
theorem wc_X8_commonDivisor : Cond.code yX8_commonDivisor cX8_commonDivisor 11 (some .long) ∈ fm_tb := fm_at 669 (by decide +kernel) (by decide +kernel)
abbrev mX9_init : MethodName × ByteArray × Nat × Option FieldType := (yX9_init, cX9_init, 2, none)
theorem wc_X9_init : Cond.code yX9_init cX9_init 2 none ∈ fm_tb := fm_at 801 (by decide +kernel) (by decide +kernel)
abbrev mX9_within : MethodName × ByteArray × Nat × Option FieldType := (yX9_within, cX9_within, 3, (some .boolean))
theorem wc_X9_within : Cond.code yX9_within cX9_within 3 (some .boolean) ∈ fm_tb := fm_at 919 (by decide +kernel) (by decide +kernel)
abbrev mX9_isPart : MethodName × ByteArray × Nat × Option FieldType := (yX9_isPart, cX9_isPart, 2, (some .boolean))
theorem wc_X9_isPart : Cond.code yX9_isPart cX9_isPart 2 (some .boolean) ∈ fm_tb := fm_at 942 (by decide +kernel) (by decide +kernel)
abbrev mX9_isGate : MethodName × ByteArray × Nat × Option FieldType := (yX9_isGate, cX9_isGate, 2, (some .boolean))
theorem wc_X9_isGate : Cond.code yX9_isGate cX9_isGate 2 (some .boolean) ∈ fm_tb := fm_at 934 (by decide +kernel) (by decide +kernel)
abbrev mX9_isSet : MethodName × ByteArray × Nat × Option FieldType := (yX9_isSet, cX9_isSet, 2, (some .boolean))
theorem wc_X9_isSet : Cond.code yX9_isSet cX9_isSet 2 (some .boolean) ∈ fm_tb := fm_at 962 (by decide +kernel) (by decide +kernel)
abbrev mX9_isOdds : MethodName × ByteArray × Nat × Option FieldType := (yX9_isOdds, cX9_isOdds, 1, (some .boolean))
theorem wc_X9_isOdds : Cond.code yX9_isOdds cX9_isOdds 1 (some .boolean) ∈ fm_tb := fm_at 916 (by decide +kernel) (by decide +kernel)
abbrev mX9_part : MethodName × ByteArray × Nat × Option FieldType := (yX9_part, cX9_part, 2, (some .int))
theorem wc_X9_part : Cond.code yX9_part cX9_part 2 (some .int) ∈ fm_tb := fm_at 913 (by decide +kernel) (by decide +kernel)
abbrev mX9_isKind : MethodName × ByteArray × Nat × Option FieldType := (yX9_isKind, cX9_isKind, 2, (some .boolean))
theorem wc_X9_isKind : Cond.code yX9_isKind cX9_isKind 2 (some .boolean) ∈ fm_tb := fm_at 926 (by decide +kernel) (by decide +kernel)
abbrev mX9_gate : MethodName × ByteArray × Nat × Option FieldType := (yX9_gate, cX9_gate, 3, (some .int))
theorem wc_X9_gate : Cond.code yX9_gate cX9_gate 3 (some .int) ∈ fm_tb := fm_at 923 (by decide +kernel) (by decide +kernel)
abbrev mX9_turn : MethodName × ByteArray × Nat × Option FieldType := (yX9_turn, cX9_turn, 5, (some .int))
theorem wc_X9_turn : Cond.code yX9_turn cX9_turn 5 (some .int) ∈ fm_tb := fm_at 930 (by decide +kernel) (by decide +kernel)
abbrev mX9_join : MethodName × ByteArray × Nat × Option FieldType := (yX9_join, cX9_join, 4, (some .int))
theorem wc_X9_join : Cond.code yX9_join cX9_join 4 (some .int) ∈ fm_tb := fm_at 938 (by decide +kernel) (by decide +kernel)
abbrev mX9_drop : MethodName × ByteArray × Nat × Option FieldType := (yX9_drop, cX9_drop, 2, (some .int))
theorem wc_X9_drop : Cond.code yX9_drop cX9_drop 2 (some .int) ∈ fm_tb := fm_at 946 (by decide +kernel) (by decide +kernel)
abbrev mX9_topmost : MethodName × ByteArray × Nat × Option FieldType := (yX9_topmost, cX9_topmost, 1, (some .int))
theorem wc_X9_topmost : Cond.code yX9_topmost cX9_topmost 1 (some .int) ∈ fm_tb := fm_at 954 (by decide +kernel) (by decide +kernel)
abbrev mX9_top : MethodName × ByteArray × Nat × Option FieldType := (yX9_top, cX9_top, 3, (some .int))
theorem wc_X9_top : Cond.code yX9_top cX9_top 3 (some .int) ∈ fm_tb := fm_at 950 (by decide +kernel) (by decide +kernel)
abbrev mX9_cause : MethodName × ByteArray × Nat × Option FieldType := (yX9_cause, cX9_cause, 3, (some .int))
theorem wc_X9_cause : Cond.code yX9_cause cX9_cause 3 (some .int) ∈ fm_tb := fm_at 958 (by decide +kernel) (by decide +kernel)
abbrev mX9_odds : MethodName × ByteArray × Nat × Option FieldType := (yX9_odds, cX9_odds, 5, (some .int))
theorem wc_X9_odds : Cond.code yX9_odds cX9_odds 5 (some .int) ∈ fm_tb := fm_at 966 (by decide +kernel) (by decide +kernel)
abbrev mX9_placeOf : MethodName × ByteArray × Nat × Option FieldType := (yX9_placeOf, cX9_placeOf, 3, (some .int))
theorem wc_X9_placeOf : Cond.code yX9_placeOf cX9_placeOf 3 (some .int) ∈ fm_tb := fm_at 974 (by decide +kernel) (by decide +kernel)
abbrev mX9_ofGate : MethodName × ByteArray × Nat × Option FieldType := (yX9_ofGate, cX9_ofGate, 3, (some .int))
theorem wc_X9_ofGate : Cond.code yX9_ofGate cX9_ofGate 3 (some .int) ∈ fm_tb := fm_at 978 (by decide +kernel) (by decide +kernel)
abbrev mX9_of : MethodName × ByteArray × Nat × Option FieldType := (yX9_of, cX9_of, 4, (some .int))
theorem wc_X9_of : Cond.code yX9_of cX9_of 4 (some .int) ∈ fm_tb := fm_at 970 (by decide +kernel) (by decide +kernel)
abbrev mX9_feed : MethodName × ByteArray × Nat × Option FieldType := (yX9_feed, cX9_feed, 2, (some .int))
theorem wc_X9_feed : Cond.code yX9_feed cX9_feed 2 (some .int) ∈ fm_tb := fm_at 982 (by decide +kernel) (by decide +kernel)
abbrev mX9_signAt : MethodName × ByteArray × Nat × Option FieldType := (yX9_signAt, cX9_signAt, 2, (some .int))
theorem wc_X9_signAt : Cond.code yX9_signAt cX9_signAt 2 (some .int) ∈ fm_tb := fm_at 1006 (by decide +kernel) (by decide +kernel)
abbrev mX9_isDigit : MethodName × ByteArray × Nat × Option FieldType := (yX9_isDigit, cX9_isDigit, 2, (some .boolean))
theorem wc_X9_isDigit : Cond.code yX9_isDigit cX9_isDigit 2 (some .boolean) ∈ fm_tb := fm_at 1002 (by decide +kernel) (by decide +kernel)
abbrev mX9_behindOdds : MethodName × ByteArray × Nat × Option FieldType := (yX9_behindOdds, cX9_behindOdds, 3, (some .int))
theorem wc_X9_behindOdds : Cond.code yX9_behindOdds cX9_behindOdds 3 (some .int) ∈ fm_tb := fm_at 998 (by decide +kernel) (by decide +kernel)
abbrev mX9_behindParts : MethodName × ByteArray × Nat × Option FieldType := (yX9_behindParts, cX9_behindParts, 4, (some .int))
theorem wc_X9_behindParts : Cond.code yX9_behindParts cX9_behindParts 4 (some .int) ∈ fm_tb := fm_at 1010 (by decide +kernel) (by decide +kernel)
abbrev mX9_behind : MethodName × ByteArray × Nat × Option FieldType := (yX9_behind, cX9_behind, 3, (some .int))
theorem wc_X9_behind : Cond.code yX9_behind cX9_behind 3 (some .int) ∈ fm_tb := fm_at 994 (by decide +kernel) (by decide +kernel)
abbrev mX9_fault : MethodName × ByteArray × Nat × Option FieldType := (yX9_fault, cX9_fault, 3, (some .int))
theorem wc_X9_fault : Cond.code yX9_fault cX9_fault 3 (some .int) ∈ fm_tb := fm_at 990 (by decide +kernel) (by decide +kernel)
abbrev mX9_number : MethodName × ByteArray × Nat × Option FieldType := (yX9_number, cX9_number, 5, (some .int))
theorem wc_X9_number : Cond.code yX9_number cX9_number 5 (some .int) ∈ fm_tb := fm_at 1018 (by decide +kernel) (by decide +kernel)
abbrev mX9_does : MethodName × ByteArray × Nat × Option FieldType := (yX9_does, cX9_does, 6, (some .boolean))
theorem wc_X9_does : Cond.code yX9_does cX9_does 6 (some .boolean) ∈ fm_tb := fm_at 1014 (by decide +kernel) (by decide +kernel)
abbrev mX9_read : MethodName × ByteArray × Nat × Option FieldType := (yX9_read, cX9_read, 5, (some .int))
theorem wc_X9_read : Cond.code yX9_read cX9_read 5 (some .int) ∈ fm_tb := fm_at 986 (by decide +kernel) (by decide +kernel)
abbrev mX9_fallsBy : MethodName × ByteArray × Nat × Option FieldType := (yX9_fallsBy, cX9_fallsBy, 3, (some .boolean))
theorem wc_X9_fallsBy : Cond.code yX9_fallsBy cX9_fallsBy 3 (some .boolean) ∈ fm_tb := fm_at 1034 (by decide +kernel) (by decide +kernel)
abbrev mX9_fallsAt : MethodName × ByteArray × Nat × Option FieldType := (yX9_fallsAt, cX9_fallsAt, 7, (some .boolean))
theorem wc_X9_fallsAt : Cond.code yX9_fallsAt cX9_fallsAt 7 (some .boolean) ∈ fm_tb := fm_at 1030 (by decide +kernel) (by decide +kernel)
abbrev mX9_isDown : MethodName × ByteArray × Nat × Option FieldType := (yX9_isDown, cX9_isDown, 2, (some .boolean))
theorem wc_X9_isDown : Cond.code yX9_isDown cX9_isDown 2 (some .boolean) ∈ fm_tb := fm_at 1058 (by decide +kernel) (by decide +kernel)
abbrev mX9_fails : MethodName × ByteArray × Nat × Option FieldType := (yX9_fails, cX9_fails, 3, (some .int))
theorem wc_X9_fails : Cond.code yX9_fails cX9_fails 3 (some .int) ∈ fm_tb := fm_at 1026 (by decide +kernel) (by decide +kernel)
abbrev mX9_goes : MethodName × ByteArray × Nat × Option FieldType := (yX9_goes, cX9_goes, 5, none)
theorem wc_X9_goes : Cond.code yX9_goes cX9_goes 5 none ∈ fm_tb := fm_at 1042 (by decide +kernel) (by decide +kernel)
abbrev mX9_move : MethodName × ByteArray × Nat × Option FieldType := (yX9_move, cX9_move, 4, (some .int))
theorem wc_X9_move : Cond.code yX9_move cX9_move 4 (some .int) ∈ fm_tb := fm_at 1038 (by decide +kernel) (by decide +kernel)
abbrev mX9_at : MethodName × ByteArray × Nat × Option FieldType := (yX9_at, cX9_at, 2, (some .int))
theorem wc_X9_at : Cond.code yX9_at cX9_at 2 (some .int) ∈ fm_tb := fm_at 1046 (by decide +kernel) (by decide +kernel)
abbrev mX9_all : MethodName × ByteArray × Nat × Option FieldType := (yX9_all, cX9_all, 1, (some .long))
theorem wc_X9_all : Cond.code yX9_all cX9_all 1 (some .long) ∈ fm_tb := fm_at 1066 (by decide +kernel) (by decide +kernel)
abbrev mX9_were : MethodName × ByteArray × Nat × Option FieldType := (yX9_were, cX9_were, 9, (some .long))
theorem wc_X9_were : Cond.code yX9_were cX9_were 9 (some .long) ∈ fm_tb := fm_at 1071 (by decide +kernel) (by decide +kernel)
abbrev mX9_nodeFor : MethodName × ByteArray × Nat × Option FieldType := (yX9_nodeFor, cX9_nodeFor, 5, (some .int))
theorem wc_X9_nodeFor : Cond.code yX9_nodeFor cX9_nodeFor 5 (some .int) ∈ fm_tb := fm_at 1062 (by decide +kernel) (by decide +kernel)
abbrev mX9_draws : MethodName × ByteArray × Nat × Option FieldType := (yX9_draws, cX9_draws, 4, (some .int))
theorem wc_X9_draws : Cond.code yX9_draws cX9_draws 4 (some .int) ∈ fm_tb := fm_at 1054 (by decide +kernel) (by decide +kernel)
abbrev mX9_sift : MethodName × ByteArray × Nat × Option FieldType := (yX9_sift, cX9_sift, 5, (some .int))
theorem wc_X9_sift : Cond.code yX9_sift cX9_sift 5 (some .int) ∈ fm_tb := fm_at 1050 (by decide +kernel) (by decide +kernel)
abbrev mX9_node : MethodName × ByteArray × Nat × Option FieldType := (yX9_node, cX9_node, 3, (some .int))
theorem wc_X9_node : Cond.code yX9_node cX9_node 3 (some .int) ∈ fm_tb := fm_at 1075 (by decide +kernel) (by decide +kernel)
abbrev mX9_many : MethodName × ByteArray × Nat × Option FieldType := (yX9_many, cX9_many, 3, (some .int))
theorem wc_X9_many : Cond.code yX9_many cX9_many 3 (some .int) ∈ fm_tb := fm_at 1090 (by decide +kernel) (by decide +kernel)
abbrev mX9_isOne : MethodName × ByteArray × Nat × Option FieldType := (yX9_isOne, cX9_isOne, 3, (some .boolean))
theorem wc_X9_isOne : Cond.code yX9_isOne cX9_isOne 3 (some .boolean) ∈ fm_tb := fm_at 1098 (by decide +kernel) (by decide +kernel)
abbrev mX9_isLeast : MethodName × ByteArray × Nat × Option FieldType := (yX9_isLeast, cX9_isLeast, 4, (some .boolean))
theorem wc_X9_isLeast : Cond.code yX9_isLeast cX9_isLeast 4 (some .boolean) ∈ fm_tb := fm_at 1094 (by decide +kernel) (by decide +kernel)
abbrev mX9_sets : MethodName × ByteArray × Nat × Option FieldType := (yX9_sets, cX9_sets, 4, none)
theorem wc_X9_sets : Cond.code yX9_sets cX9_sets 4 none ∈ fm_tb := fm_at 1087 (by decide +kernel) (by decide +kernel)
abbrev mX9_setAt : MethodName × ByteArray × Nat × Option FieldType := (yX9_setAt, cX9_setAt, 3, (some .int))
theorem wc_X9_setAt : Cond.code yX9_setAt cX9_setAt 3 (some .int) ∈ fm_tb := fm_at 1083 (by decide +kernel) (by decide +kernel)
abbrev mX9_cut : MethodName × ByteArray × Nat × Option FieldType := (yX9_cut, cX9_cut, 2, (some .int))
theorem wc_X9_cut : Cond.code yX9_cut cX9_cut 2 (some .int) ∈ fm_tb := fm_at 1079 (by decide +kernel) (by decide +kernel)
abbrev mX9_path : MethodName × ByteArray × Nat × Option FieldType := (yX9_path, cX9_path, 2, (some .int))
theorem wc_X9_path : Cond.code yX9_path cX9_path 2 (some .int) ∈ fm_tb := fm_at 1102 (by decide +kernel) (by decide +kernel)
abbrev mX9_alone : MethodName × ByteArray × Nat × Option FieldType := (yX9_alone, cX9_alone, 5, (some .long))
theorem wc_X9_alone : Cond.code yX9_alone cX9_alone 5 (some .long) ∈ fm_tb := fm_at 1123 (by decide +kernel) (by decide +kernel)
abbrev mX9_together : MethodName × ByteArray × Nat × Option FieldType := (yX9_together, cX9_together, 5, (some .long))
theorem wc_X9_together : Cond.code yX9_together cX9_together 5 (some .long) ∈ fm_tb := fm_at 1115 (by decide +kernel) (by decide +kernel)
abbrev mX9_broken : MethodName × ByteArray × Nat × Option FieldType := (yX9_broken, cX9_broken, 4, (some .int))
theorem wc_X9_broken : Cond.code yX9_broken cX9_broken 4 (some .int) ∈ fm_tb := fm_at 1119 (by decide +kernel) (by decide +kernel)
abbrev mX9_chance : MethodName × ByteArray × Nat × Option FieldType := (yX9_chance, cX9_chance, 7, (some .long))
theorem wc_X9_chance : Cond.code yX9_chance cX9_chance 7 (some .long) ∈ fm_tb := fm_at 1111 (by decide +kernel) (by decide +kernel)
abbrev mX9_whole : MethodName × ByteArray × Nat × Option FieldType := (yX9_whole, cX9_whole, 4, (some .long))
theorem wc_X9_whole : Cond.code yX9_whole cX9_whole 4 (some .long) ∈ fm_tb := fm_at 1127 (by decide +kernel) (by decide +kernel)
abbrev mX9_common : MethodName × ByteArray × Nat × Option FieldType := (yX9_common, cX9_common, 4, (some .long))
theorem wc_X9_common : Cond.code yX9_common cX9_common 4 (some .long) ∈ fm_tb := fm_at 1134 (by decide +kernel) (by decide +kernel)
abbrev mX9_line : MethodName × ByteArray × Nat × Option FieldType := (yX9_line, cX9_line, 7, (some .long))
theorem wc_X9_line : Cond.code yX9_line cX9_line 7 (some .long) ∈ fm_tb := fm_at 1131 (by decide +kernel) (by decide +kernel)
abbrev mX9_chance_ : MethodName × ByteArray × Nat × Option FieldType := (yX9_chance_, cX9_chance_, 2, (some .long))
theorem wc_X9_chance_ : Cond.code yX9_chance_ cX9_chance_ 2 (some .long) ∈ fm_tb := fm_at 1106 (by decide +kernel) (by decide +kernel)
abbrev mX9_given : MethodName × ByteArray × Nat × Option FieldType := (yX9_given, cX9_given, 7, (some .long))
theorem wc_X9_given : Cond.code yX9_given cX9_given 7 (some .long) ∈ fm_tb := fm_at 1138 (by decide +kernel) (by decide +kernel)
abbrev mX9_weight : MethodName × ByteArray × Nat × Option FieldType := (yX9_weight, cX9_weight, 5, (some .long))
theorem wc_X9_weight : Cond.code yX9_weight cX9_weight 5 (some .long) ∈ fm_tb := fm_at 1146 (by decide +kernel) (by decide +kernel)
abbrev mX9_weight_ : MethodName × ByteArray × Nat × Option FieldType := (yX9_weight_, cX9_weight_, 3, (some .long))
theorem wc_X9_weight_ : Cond.code yX9_weight_ cX9_weight_ 3 (some .long) ∈ fm_tb := fm_at 1142 (by decide +kernel) (by decide +kernel)
abbrev mX9_most : MethodName × ByteArray × Nat × Option FieldType := (yX9_most, cX9_most, 7, (some .int))
theorem wc_X9_most : Cond.code yX9_most cX9_most 7 (some .int) ∈ fm_tb := fm_at 1162 (by decide +kernel) (by decide +kernel)
abbrev mX9_many_ : MethodName × ByteArray × Nat × Option FieldType := (yX9_many_, cX9_many_, 2, (some .int))
theorem wc_X9_many_ : Cond.code yX9_many_ cX9_many_ 2 (some .int) ∈ fm_tb := fm_at 1158 (by decide +kernel) (by decide +kernel)
abbrev mX9_drawn : MethodName × ByteArray × Nat × Option FieldType := (yX9_drawn, cX9_drawn, 1, (some .int))
theorem wc_X9_drawn : Cond.code yX9_drawn cX9_drawn 1 (some .int) ∈ fm_tb := fm_at 1154 (by decide +kernel) (by decide +kernel)
abbrev mX9_ever : MethodName × ByteArray × Nat × Option FieldType := (yX9_ever, cX9_ever, 2, (some .int))
theorem wc_X9_ever : Cond.code yX9_ever cX9_ever 2 (some .int) ∈ fm_tb := fm_at 1166 (by decide +kernel) (by decide +kernel)
abbrev mX9_told : MethodName × ByteArray × Nat × Option FieldType := (yX9_told, cX9_told, 2, (some .int))
theorem wc_X9_told : Cond.code yX9_told cX9_told 2 (some .int) ∈ fm_tb := fm_at 1150 (by decide +kernel) (by decide +kernel)
abbrev mX9_see : MethodName × ByteArray × Nat × Option FieldType := (yX9_see, cX9_see, 3, (some .int))
theorem wc_X9_see : Cond.code yX9_see cX9_see 3 (some .int) ∈ fm_tb := fm_at 1170 (by decide +kernel) (by decide +kernel)
abbrev mX9_isAllSo : MethodName × ByteArray × Nat × Option FieldType := (yX9_isAllSo, cX9_isAllSo, 2, (some .boolean))
theorem wc_X9_isAllSo : Cond.code yX9_isAllSo cX9_isAllSo 2 (some .boolean) ∈ fm_tb := fm_at 1178 (by decide +kernel) (by decide +kernel)
abbrev mX9_fits : MethodName × ByteArray × Nat × Option FieldType := (yX9_fits, cX9_fits, 8, (some .int))
theorem wc_X9_fits : Cond.code yX9_fits cX9_fits 8 (some .int) ∈ fm_tb := fm_at 1174 (by decide +kernel) (by decide +kernel)
abbrev mX9_mean : MethodName × ByteArray × Nat × Option FieldType := (yX9_mean, cX9_mean, 5, (some .long))
theorem wc_X9_mean : Cond.code yX9_mean cX9_mean 5 (some .long) ∈ fm_tb := fm_at 1182 (by decide +kernel) (by decide +kernel)
abbrev mX9_event : MethodName × ByteArray × Nat × Option FieldType := (yX9_event, cX9_event, 3, (some .int))
theorem wc_X9_event : Cond.code yX9_event cX9_event 3 (some .int) ∈ fm_tb := fm_at 1186 (by decide +kernel) (by decide +kernel)
abbrev mX9_after : MethodName × ByteArray × Nat × Option FieldType := (yX9_after, cX9_after, 4, (some .int))
theorem wc_X9_after : Cond.code yX9_after cX9_after 4 (some .int) ∈ fm_tb := fm_at 1190 (by decide +kernel) (by decide +kernel)
abbrev mX9_book : MethodName × ByteArray × Nat × Option FieldType := (yX9_book, cX9_book, 2, (some .int))
theorem wc_X9_book : Cond.code yX9_book cX9_book 2 (some .int) ∈ fm_tb := fm_at 1194 (by decide +kernel) (by decide +kernel)
abbrev mX9_isTold : MethodName × ByteArray × Nat × Option FieldType := (yX9_isTold, cX9_isTold, 3, (some .boolean))
theorem wc_X9_isTold : Cond.code yX9_isTold cX9_isTold 3 (some .boolean) ∈ fm_tb := fm_at 1202 (by decide +kernel) (by decide +kernel)
abbrev mX9_looked : MethodName × ByteArray × Nat × Option FieldType := (yX9_looked, cX9_looked, 2, (some .int))
theorem wc_X9_looked : Cond.code yX9_looked cX9_looked 2 (some .int) ∈ fm_tb := fm_at 1198 (by decide +kernel) (by decide +kernel)
abbrev mX9_judge : MethodName × ByteArray × Nat × Option FieldType := (yX9_judge, cX9_judge, 4, (some .int))
theorem wc_X9_judge : Cond.code yX9_judge cX9_judge 4 (some .int) ∈ fm_tb := fm_at 1206 (by decide +kernel) (by decide +kernel)
abbrev mX9_image : MethodName × ByteArray × Nat × Option FieldType := (yX9_image, cX9_image, 2, (some .int))
theorem wc_X9_image : Cond.code yX9_image cX9_image 2 (some .int) ∈ fm_tb := fm_at 1213 (by decide +kernel) (by decide +kernel)
abbrev mX9_undo : MethodName × ByteArray × Nat × Option FieldType := (yX9_undo, cX9_undo, 2, (some .int))
theorem wc_X9_undo : Cond.code yX9_undo cX9_undo 2 (some .int) ∈ fm_tb := fm_at 1217 (by decide +kernel) (by decide +kernel)
abbrev mX9_count : MethodName × ByteArray × Nat × Option FieldType := (yX9_count, cX9_count, 2, (some .int))
theorem wc_X9_count : Cond.code yX9_count cX9_count 2 (some .int) ∈ fm_tb := fm_at 1221 (by decide +kernel) (by decide +kernel)
abbrev mX9_isTape : MethodName × ByteArray × Nat × Option FieldType := (yX9_isTape, cX9_isTape, 1, (some .boolean))
theorem wc_X9_isTape : Cond.code yX9_isTape cX9_isTape 1 (some .boolean) ∈ fm_tb := fm_at 1209 (by decide +kernel) (by decide +kernel)
abbrev mX9_tape : MethodName × ByteArray × Nat × Option FieldType := (yX9_tape, cX9_tape, 5, (some .int))
theorem wc_X9_tape : Cond.code yX9_tape cX9_tape 5 (some .int) ∈ fm_tb := fm_at 1225 (by decide +kernel) (by decide +kernel)
abbrev mX9_bits : MethodName × ByteArray × Nat × Option FieldType := (yX9_bits, cX9_bits, 3, (some .long))
theorem wc_X9_bits : Cond.code yX9_bits cX9_bits 3 (some .long) ∈ fm_tb := fm_at 1232 (by decide +kernel) (by decide +kernel)
abbrev mX9_item : MethodName × ByteArray × Nat × Option FieldType := (yX9_item, cX9_item, 5, (some .int))
theorem wc_X9_item : Cond.code yX9_item cX9_item 5 (some .int) ∈ fm_tb := fm_at 1229 (by decide +kernel) (by decide +kernel)
abbrev mX9_peek : MethodName × ByteArray × Nat × Option FieldType := (yX9_peek, cX9_peek, 3, (some .long))
theorem wc_X9_peek : Cond.code yX9_peek cX9_peek 3 (some .long) ∈ fm_tb := fm_at 1236 (by decide +kernel) (by decide +kernel)
abbrev mX9_shift : MethodName × ByteArray × Nat × Option FieldType := (yX9_shift, cX9_shift, 7, (some .int))
theorem wc_X9_shift : Cond.code yX9_shift cX9_shift 7 (some .int) ∈ fm_tb := fm_at 1240 (by decide +kernel) (by decide +kernel)
abbrev mJ6_bitCount_0f7a4 : MethodName × ByteArray × Nat × Option FieldType := (yJ6_bitCount_0f7a4, cJ6_bitCount_0f7a4, 1, (some .int))
theorem wc_J6_bitCount_0f7a4 : Cond.code yJ6_bitCount_0f7a4 cJ6_bitCount_0f7a4 1 (some .int) ∈ fm_tb := fm_at 589 (by decide +kernel) (by decide +kernel)
abbrev mJ9_max_7cf53 : MethodName × ByteArray × Nat × Option FieldType := (yJ9_max_7cf53, cJ9_max_7cf53, 2, (some .int))
theorem wc_J9_max_7cf53 : Cond.code yJ9_max_7cf53 cJ9_max_7cf53 2 (some .int) ∈ fm_tb := fm_at 163 (by decide +kernel) (by decide +kernel)
abbrev mJ9_min_7cf53 : MethodName × ByteArray × Nat × Option FieldType := (yJ9_min_7cf53, cJ9_min_7cf53, 2, (some .int))
theorem wc_J9_min_7cf53 : Cond.code yJ9_min_7cf53 cJ9_min_7cf53 2 (some .int) ∈ fm_tb := fm_at 754 (by decide +kernel) (by decide +kernel)
theorem wi_RL : Cond.initialized RL ∈ fm_tb := fm_at 59 (by decide +kernel) (by decide +kernel)
theorem wi_RX8 : Cond.initialized RX8 ∈ fm_tb := fm_at 60 (by decide +kernel) (by decide +kernel)
theorem wi_RX6 : Cond.initialized RX6 ∈ fm_tb := fm_at 61 (by decide +kernel) (by decide +kernel)
theorem wi_RX3 : Cond.initialized RX3 ∈ fm_tb := fm_at 62 (by decide +kernel) (by decide +kernel)
theorem wi_RX4 : Cond.initialized RX4 ∈ fm_tb := fm_at 63 (by decide +kernel) (by decide +kernel)
theorem wi_RJ9 : Cond.initialized RJ9 ∈ fm_tb := fm_at 64 (by decide +kernel) (by decide +kernel)
theorem wi_RX1 : Cond.initialized RX1 ∈ fm_tb := fm_at 65 (by decide +kernel) (by decide +kernel)
theorem wi_RX2 : Cond.initialized RX2 ∈ fm_tb := fm_at 66 (by decide +kernel) (by decide +kernel)
theorem wi_RX0 : Cond.initialized RX0 ∈ fm_tb := fm_at 67 (by decide +kernel) (by decide +kernel)
theorem wi_RX5 : Cond.initialized RX5 ∈ fm_tb := fm_at 68 (by decide +kernel) (by decide +kernel)
theorem wi_RX7 : Cond.initialized RX7 ∈ fm_tb := fm_at 69 (by decide +kernel) (by decide +kernel)
theorem wi_RX9 : Cond.initialized RX9 ∈ fm_tb := fm_at 70 (by decide +kernel) (by decide +kernel)
theorem wi_RJ10 : Cond.initialized RJ10 ∈ fm_tb := fm_at 71 (by decide +kernel) (by decide +kernel)
theorem wi_RJ6 : Cond.initialized RJ6 ∈ fm_tb := fm_at 72 (by decide +kernel) (by decide +kernel)
theorem lf_X8_14 : fm_lkF RX8 14 8 0 := ⟨RX8, TX8, 9, rfl, inX8, by decide, fm_at 298 (by decide +kernel) (by decide +kernel)⟩
theorem lf_X8_18 : fm_lkF RX8 18 8 1 := ⟨RX8, TX8, 9, rfl, inX8, by decide, fm_at 299 (by decide +kernel) (by decide +kernel)⟩
theorem lf_X8_24 : fm_lkF RX8 24 8 2 := ⟨RX8, TX8, 9, rfl, inX8, by decide, fm_at 300 (by decide +kernel) (by decide +kernel)⟩
theorem lf_X8_31 : fm_lkF RX8 31 8 3 := ⟨RX8, TX8, 9, rfl, inX8, by decide, fm_at 301 (by decide +kernel) (by decide +kernel)⟩
theorem lf_X8_38 : fm_lkF RX8 38 8 4 := ⟨RX8, TX8, 9, rfl, inX8, by decide, fm_at 302 (by decide +kernel) (by decide +kernel)⟩
theorem lf_X8_45 : fm_lkF RX8 45 8 5 := ⟨RX8, TX8, 9, rfl, inX8, by decide, fm_at 303 (by decide +kernel) (by decide +kernel)⟩
theorem lf_X8_52 : fm_lkF RX8 52 8 6 := ⟨RX8, TX8, 9, rfl, inX8, by decide, fm_at 304 (by decide +kernel) (by decide +kernel)⟩
theorem lf_X8_58 : fm_lkF RX8 58 8 7 := ⟨RX8, TX8, 9, rfl, inX8, by decide, fm_at 305 (by decide +kernel) (by decide +kernel)⟩
theorem lf_X8_67 : fm_lkF RX8 67 6 0 := ⟨RX6, TX6, 4, rfl, inX6, by decide, fm_at 178 (by decide +kernel) (by decide +kernel)⟩
theorem lf_X8_87 : fm_lkF RX8 87 3 3 := ⟨RX3, TX3, 14, rfl, inX3, by decide, fm_at 104 (by decide +kernel) (by decide +kernel)⟩
theorem lf_X8_91 : fm_lkF RX8 91 3 4 := ⟨RX3, TX3, 14, rfl, inX3, by decide, fm_at 106 (by decide +kernel) (by decide +kernel)⟩
theorem lf_X8_100 : fm_lkF RX8 100 3 6 := ⟨RX3, TX3, 14, rfl, inX3, by decide, fm_at 109 (by decide +kernel) (by decide +kernel)⟩
theorem lf_X8_107 : fm_lkF RX8 107 3 8 := ⟨RX3, TX3, 14, rfl, inX3, by decide, fm_at 113 (by decide +kernel) (by decide +kernel)⟩
theorem lp_X8_107 : fm_lkP RX8 107 3 8 .int := ⟨RX3, TX3, 14, tyX3, rfl, inX3, by decide, fm_at 113 (by decide +kernel) (by decide +kernel), tyX3_ok, nmX3, rfl, by decide +kernel⟩
theorem lf_X8_120 : fm_lkF RX8 120 3 0 := ⟨RX3, TX3, 14, rfl, inX3, by decide, fm_at 95 (by decide +kernel) (by decide +kernel)⟩
theorem lf_X8_123 : fm_lkF RX8 123 3 9 := ⟨RX3, TX3, 14, rfl, inX3, by decide, fm_at 116 (by decide +kernel) (by decide +kernel)⟩
theorem lf_X8_142 : fm_lkF RX8 142 5 0 := ⟨RX5, TX5, 7, rfl, inX5, by decide, fm_at 250 (by decide +kernel) (by decide +kernel)⟩
theorem lp_X8_142 : fm_lkP RX8 142 5 0 .int := ⟨RX5, TX5, 7, tyX5, rfl, inX5, by decide, fm_at 250 (by decide +kernel) (by decide +kernel), tyX5_ok, nmX5, rfl, by decide +kernel⟩
theorem lf_X8_145 : fm_lkF RX8 145 5 1 := ⟨RX5, TX5, 7, rfl, inX5, by decide, fm_at 252 (by decide +kernel) (by decide +kernel)⟩
theorem lp_X8_145 : fm_lkP RX8 145 5 1 .int := ⟨RX5, TX5, 7, tyX5, rfl, inX5, by decide, fm_at 252 (by decide +kernel) (by decide +kernel), tyX5_ok, nmX5, rfl, by decide +kernel⟩
theorem lf_X8_148 : fm_lkF RX8 148 5 2 := ⟨RX5, TX5, 7, rfl, inX5, by decide, fm_at 254 (by decide +kernel) (by decide +kernel)⟩
theorem lp_X8_148 : fm_lkP RX8 148 5 2 .int := ⟨RX5, TX5, 7, tyX5, rfl, inX5, by decide, fm_at 254 (by decide +kernel) (by decide +kernel), tyX5_ok, nmX5, rfl, by decide +kernel⟩
theorem lf_X8_154 : fm_lkF RX8 154 5 4 := ⟨RX5, TX5, 7, rfl, inX5, by decide, fm_at 258 (by decide +kernel) (by decide +kernel)⟩
theorem lf_X8_157 : fm_lkF RX8 157 5 5 := ⟨RX5, TX5, 7, rfl, inX5, by decide, fm_at 260 (by decide +kernel) (by decide +kernel)⟩
theorem lf_X8_160 : fm_lkF RX8 160 5 3 := ⟨RX5, TX5, 7, rfl, inX5, by decide, fm_at 256 (by decide +kernel) (by decide +kernel)⟩
theorem lf_X8_190 : fm_lkF RX8 190 3 7 := ⟨RX3, TX3, 14, rfl, inX3, by decide, fm_at 111 (by decide +kernel) (by decide +kernel)⟩
theorem lp_X8_190 : fm_lkP RX8 190 3 7 .int := ⟨RX3, TX3, 14, tyX3, rfl, inX3, by decide, fm_at 111 (by decide +kernel) (by decide +kernel), tyX3_ok, nmX3, rfl, by decide +kernel⟩
theorem lf_X8_204 : fm_lkF RX8 204 3 2 := ⟨RX3, TX3, 14, rfl, inX3, by decide, fm_at 102 (by decide +kernel) (by decide +kernel)⟩
theorem lp_X8_204 : fm_lkP RX8 204 3 2 .int := ⟨RX3, TX3, 14, tyX3, rfl, inX3, by decide, fm_at 102 (by decide +kernel) (by decide +kernel), tyX3_ok, nmX3, rfl, by decide +kernel⟩
theorem lf_X8_211 : fm_lkF RX8 211 3 1 := ⟨RX3, TX3, 14, rfl, inX3, by decide, fm_at 98 (by decide +kernel) (by decide +kernel)⟩
theorem lf_X8_217 : fm_lkF RX8 217 3 11 := ⟨RX3, TX3, 14, rfl, inX3, by decide, fm_at 121 (by decide +kernel) (by decide +kernel)⟩
theorem lp_X8_217 : fm_lkP RX8 217 3 11 .int := ⟨RX3, TX3, 14, tyX3, rfl, inX3, by decide, fm_at 121 (by decide +kernel) (by decide +kernel), tyX3_ok, nmX3, rfl, by decide +kernel⟩
theorem lf_X8_266 : fm_lkF RX8 266 6 1 := ⟨RX6, TX6, 4, rfl, inX6, by decide, fm_at 180 (by decide +kernel) (by decide +kernel)⟩
theorem lf_X8_282 : fm_lkF RX8 282 4 2 := ⟨RX4, TX4, 3, rfl, inX4, by decide, fm_at 169 (by decide +kernel) (by decide +kernel)⟩
theorem lp_X8_282 : fm_lkP RX8 282 4 2 .int := ⟨RX4, TX4, 3, tyX4, rfl, inX4, by decide, fm_at 169 (by decide +kernel) (by decide +kernel), tyX4_ok, nmX4, rfl, by decide +kernel⟩
theorem lf_X8_283 : fm_lkF RX8 283 4 0 := ⟨RX4, TX4, 3, rfl, inX4, by decide, fm_at 165 (by decide +kernel) (by decide +kernel)⟩
theorem lf_X8_284 : fm_lkF RX8 284 4 1 := ⟨RX4, TX4, 3, rfl, inX4, by decide, fm_at 167 (by decide +kernel) (by decide +kernel)⟩
theorem lf_X8_288 : fm_lkF RX8 288 6 2 := ⟨RX6, TX6, 4, rfl, inX6, by decide, fm_at 182 (by decide +kernel) (by decide +kernel)⟩
theorem lf_X8_295 : fm_lkF RX8 295 6 3 := ⟨RX6, TX6, 4, rfl, inX6, by decide, fm_at 184 (by decide +kernel) (by decide +kernel)⟩
theorem lf_X8_305 : fm_lkF RX8 305 7 0 := ⟨RX7, TX7, 3, rfl, inX7, by decide, fm_at 286 (by decide +kernel) (by decide +kernel)⟩
theorem lp_X8_305 : fm_lkP RX8 305 7 0 .int := ⟨RX7, TX7, 3, tyX7, rfl, inX7, by decide, fm_at 286 (by decide +kernel) (by decide +kernel), tyX7_ok, nmX7, rfl, by decide +kernel⟩
theorem lf_X8_308 : fm_lkF RX8 308 2 1 := ⟨RX2, TX2, 2, rfl, inX2, by decide, fm_at 227 (by decide +kernel) (by decide +kernel)⟩
theorem lp_X8_308 : fm_lkP RX8 308 2 1 .int := ⟨RX2, TX2, 2, tyX2, rfl, inX2, by decide, fm_at 227 (by decide +kernel) (by decide +kernel), tyX2_ok, nmX2, rfl, by decide +kernel⟩
theorem lf_X8_309 : fm_lkF RX8 309 7 1 := ⟨RX7, TX7, 3, rfl, inX7, by decide, fm_at 288 (by decide +kernel) (by decide +kernel)⟩
theorem lp_X8_309 : fm_lkP RX8 309 7 1 .int := ⟨RX7, TX7, 3, tyX7, rfl, inX7, by decide, fm_at 288 (by decide +kernel) (by decide +kernel), tyX7_ok, nmX7, rfl, by decide +kernel⟩
theorem lf_X8_312 : fm_lkF RX8 312 7 2 := ⟨RX7, TX7, 3, rfl, inX7, by decide, fm_at 290 (by decide +kernel) (by decide +kernel)⟩
theorem lf_X8_316 : fm_lkF RX8 316 2 0 := ⟨RX2, TX2, 2, rfl, inX2, by decide, fm_at 225 (by decide +kernel) (by decide +kernel)⟩
theorem lf_X8_322 : fm_lkF RX8 322 8 8 := ⟨RX8, TX8, 9, rfl, inX8, by decide, fm_at 306 (by decide +kernel) (by decide +kernel)⟩
theorem lp_X8_322 : fm_lkP RX8 322 8 8 .boolean := ⟨RX8, TX8, 9, tyX8, rfl, inX8, by decide, fm_at 306 (by decide +kernel) (by decide +kernel), tyX8_ok, nmX8, rfl, by decide +kernel⟩
theorem lf_X0_9 : fm_lkF RX0 9 0 0 := ⟨RX0, TX0, 1, rfl, inX0, by decide, fm_at 239 (by decide +kernel) (by decide +kernel)⟩
theorem lf_X0_15 : fm_lkF RX0 15 3 2 := ⟨RX3, TX3, 14, rfl, inX3, by decide, fm_at 100 (by decide +kernel) (by decide +kernel)⟩
theorem lp_X0_15 : fm_lkP RX0 15 3 2 .int := ⟨RX3, TX3, 14, tyX3, rfl, inX3, by decide, fm_at 100 (by decide +kernel) (by decide +kernel), tyX3_ok, nmX3, rfl, by decide +kernel⟩
theorem lf_X0_21 : fm_lkF RX0 21 3 11 := ⟨RX3, TX3, 14, rfl, inX3, by decide, fm_at 119 (by decide +kernel) (by decide +kernel)⟩
theorem lp_X0_21 : fm_lkP RX0 21 3 11 .int := ⟨RX3, TX3, 14, tyX3, rfl, inX3, by decide, fm_at 119 (by decide +kernel) (by decide +kernel), tyX3_ok, nmX3, rfl, by decide +kernel⟩
theorem lf_X0_26 : fm_lkF RX0 26 3 0 := ⟨RX3, TX3, 14, rfl, inX3, by decide, fm_at 94 (by decide +kernel) (by decide +kernel)⟩
theorem lf_X0_34 : fm_lkF RX0 34 3 10 := ⟨RX3, TX3, 14, rfl, inX3, by decide, fm_at 118 (by decide +kernel) (by decide +kernel)⟩
theorem lf_X0_37 : fm_lkF RX0 37 3 9 := ⟨RX3, TX3, 14, rfl, inX3, by decide, fm_at 115 (by decide +kernel) (by decide +kernel)⟩
theorem lf_X1_11 : fm_lkF RX1 11 1 1 := ⟨RX1, TX1, 5, rfl, inX1, by decide, fm_at 203 (by decide +kernel) (by decide +kernel)⟩
theorem lf_X1_15 : fm_lkF RX1 15 1 2 := ⟨RX1, TX1, 5, rfl, inX1, by decide, fm_at 204 (by decide +kernel) (by decide +kernel)⟩
theorem lf_X1_19 : fm_lkF RX1 19 1 3 := ⟨RX1, TX1, 5, rfl, inX1, by decide, fm_at 205 (by decide +kernel) (by decide +kernel)⟩
theorem lf_X1_22 : fm_lkF RX1 22 1 4 := ⟨RX1, TX1, 5, rfl, inX1, by decide, fm_at 206 (by decide +kernel) (by decide +kernel)⟩
theorem lf_X1_25 : fm_lkF RX1 25 1 0 := ⟨RX1, TX1, 5, rfl, inX1, by decide, fm_at 202 (by decide +kernel) (by decide +kernel)⟩
theorem lp_X1_25 : fm_lkP RX1 25 1 0 .int := ⟨RX1, TX1, 5, tyX1, rfl, inX1, by decide, fm_at 202 (by decide +kernel) (by decide +kernel), tyX1_ok, nmX1, rfl, by decide +kernel⟩
theorem lf_X1_44 : fm_lkF RX1 44 3 2 := ⟨RX3, TX3, 14, rfl, inX3, by decide, fm_at 101 (by decide +kernel) (by decide +kernel)⟩
theorem lp_X1_44 : fm_lkP RX1 44 3 2 .int := ⟨RX3, TX3, 14, tyX3, rfl, inX3, by decide, fm_at 101 (by decide +kernel) (by decide +kernel), tyX3_ok, nmX3, rfl, by decide +kernel⟩
theorem lf_X1_47 : fm_lkF RX1 47 3 1 := ⟨RX3, TX3, 14, rfl, inX3, by decide, fm_at 97 (by decide +kernel) (by decide +kernel)⟩
theorem lf_X2_9 : fm_lkF RX2 9 2 0 := ⟨RX2, TX2, 2, rfl, inX2, by decide, fm_at 224 (by decide +kernel) (by decide +kernel)⟩
theorem lf_X2_27 : fm_lkF RX2 27 2 1 := ⟨RX2, TX2, 2, rfl, inX2, by decide, fm_at 226 (by decide +kernel) (by decide +kernel)⟩
theorem lp_X2_27 : fm_lkP RX2 27 2 1 .int := ⟨RX2, TX2, 2, tyX2, rfl, inX2, by decide, fm_at 226 (by decide +kernel) (by decide +kernel), tyX2_ok, nmX2, rfl, by decide +kernel⟩
theorem lf_X3_9 : fm_lkF RX3 9 3 0 := ⟨RX3, TX3, 14, rfl, inX3, by decide, fm_at 93 (by decide +kernel) (by decide +kernel)⟩
theorem lf_X3_15 : fm_lkF RX3 15 3 1 := ⟨RX3, TX3, 14, rfl, inX3, by decide, fm_at 96 (by decide +kernel) (by decide +kernel)⟩
theorem lf_X3_18 : fm_lkF RX3 18 3 3 := ⟨RX3, TX3, 14, rfl, inX3, by decide, fm_at 103 (by decide +kernel) (by decide +kernel)⟩
theorem lf_X3_21 : fm_lkF RX3 21 3 4 := ⟨RX3, TX3, 14, rfl, inX3, by decide, fm_at 105 (by decide +kernel) (by decide +kernel)⟩
theorem lf_X3_24 : fm_lkF RX3 24 3 5 := ⟨RX3, TX3, 14, rfl, inX3, by decide, fm_at 107 (by decide +kernel) (by decide +kernel)⟩
theorem lf_X3_27 : fm_lkF RX3 27 3 6 := ⟨RX3, TX3, 14, rfl, inX3, by decide, fm_at 108 (by decide +kernel) (by decide +kernel)⟩
theorem lf_X3_30 : fm_lkF RX3 30 3 8 := ⟨RX3, TX3, 14, rfl, inX3, by decide, fm_at 112 (by decide +kernel) (by decide +kernel)⟩
theorem lp_X3_30 : fm_lkP RX3 30 3 8 .int := ⟨RX3, TX3, 14, tyX3, rfl, inX3, by decide, fm_at 112 (by decide +kernel) (by decide +kernel), tyX3_ok, nmX3, rfl, by decide +kernel⟩
theorem lf_X3_34 : fm_lkF RX3 34 3 9 := ⟨RX3, TX3, 14, rfl, inX3, by decide, fm_at 114 (by decide +kernel) (by decide +kernel)⟩
theorem lf_X3_37 : fm_lkF RX3 37 3 10 := ⟨RX3, TX3, 14, rfl, inX3, by decide, fm_at 117 (by decide +kernel) (by decide +kernel)⟩
theorem lf_X3_40 : fm_lkF RX3 40 3 12 := ⟨RX3, TX3, 14, rfl, inX3, by decide, fm_at 122 (by decide +kernel) (by decide +kernel)⟩
theorem lf_X3_44 : fm_lkF RX3 44 3 13 := ⟨RX3, TX3, 14, rfl, inX3, by decide, fm_at 123 (by decide +kernel) (by decide +kernel)⟩
theorem lf_X3_47 : fm_lkF RX3 47 3 2 := ⟨RX3, TX3, 14, rfl, inX3, by decide, fm_at 99 (by decide +kernel) (by decide +kernel)⟩
theorem lp_X3_47 : fm_lkP RX3 47 3 2 .int := ⟨RX3, TX3, 14, tyX3, rfl, inX3, by decide, fm_at 99 (by decide +kernel) (by decide +kernel), tyX3_ok, nmX3, rfl, by decide +kernel⟩
theorem lf_X3_54 : fm_lkF RX3 54 3 7 := ⟨RX3, TX3, 14, rfl, inX3, by decide, fm_at 110 (by decide +kernel) (by decide +kernel)⟩
theorem lp_X3_54 : fm_lkP RX3 54 3 7 .int := ⟨RX3, TX3, 14, tyX3, rfl, inX3, by decide, fm_at 110 (by decide +kernel) (by decide +kernel), tyX3_ok, nmX3, rfl, by decide +kernel⟩
theorem lf_X3_57 : fm_lkF RX3 57 3 11 := ⟨RX3, TX3, 14, rfl, inX3, by decide, fm_at 120 (by decide +kernel) (by decide +kernel)⟩
theorem lp_X3_57 : fm_lkP RX3 57 3 11 .int := ⟨RX3, TX3, 14, tyX3, rfl, inX3, by decide, fm_at 120 (by decide +kernel) (by decide +kernel), tyX3_ok, nmX3, rfl, by decide +kernel⟩
theorem lg_X3_90 : Cond.fieldLink RX3 90 "FaultGraph$Plant" "PART_TABLES" "[J" ∈ fm_tb := fm_at 499 (by decide +kernel) (by decide +kernel)
theorem lf_X4_15 : fm_lkF RX4 15 4 0 := ⟨RX4, TX4, 3, rfl, inX4, by decide, fm_at 164 (by decide +kernel) (by decide +kernel)⟩
theorem lf_X4_21 : fm_lkF RX4 21 4 1 := ⟨RX4, TX4, 3, rfl, inX4, by decide, fm_at 166 (by decide +kernel) (by decide +kernel)⟩
theorem lf_X4_24 : fm_lkF RX4 24 4 2 := ⟨RX4, TX4, 3, rfl, inX4, by decide, fm_at 168 (by decide +kernel) (by decide +kernel)⟩
theorem lp_X4_24 : fm_lkP RX4 24 4 2 .int := ⟨RX4, TX4, 3, tyX4, rfl, inX4, by decide, fm_at 168 (by decide +kernel) (by decide +kernel), tyX4_ok, nmX4, rfl, by decide +kernel⟩
theorem lf_X5_11 : fm_lkF RX5 11 5 3 := ⟨RX5, TX5, 7, rfl, inX5, by decide, fm_at 255 (by decide +kernel) (by decide +kernel)⟩
theorem lf_X5_15 : fm_lkF RX5 15 5 4 := ⟨RX5, TX5, 7, rfl, inX5, by decide, fm_at 257 (by decide +kernel) (by decide +kernel)⟩
theorem lf_X5_18 : fm_lkF RX5 18 5 5 := ⟨RX5, TX5, 7, rfl, inX5, by decide, fm_at 259 (by decide +kernel) (by decide +kernel)⟩
theorem lf_X5_21 : fm_lkF RX5 21 5 6 := ⟨RX5, TX5, 7, rfl, inX5, by decide, fm_at 261 (by decide +kernel) (by decide +kernel)⟩
theorem lf_X5_25 : fm_lkF RX5 25 5 0 := ⟨RX5, TX5, 7, rfl, inX5, by decide, fm_at 249 (by decide +kernel) (by decide +kernel)⟩
theorem lp_X5_25 : fm_lkP RX5 25 5 0 .int := ⟨RX5, TX5, 7, tyX5, rfl, inX5, by decide, fm_at 249 (by decide +kernel) (by decide +kernel), tyX5_ok, nmX5, rfl, by decide +kernel⟩
theorem lf_X5_29 : fm_lkF RX5 29 5 1 := ⟨RX5, TX5, 7, rfl, inX5, by decide, fm_at 251 (by decide +kernel) (by decide +kernel)⟩
theorem lp_X5_29 : fm_lkP RX5 29 5 1 .int := ⟨RX5, TX5, 7, tyX5, rfl, inX5, by decide, fm_at 251 (by decide +kernel) (by decide +kernel), tyX5_ok, nmX5, rfl, by decide +kernel⟩
theorem lf_X5_32 : fm_lkF RX5 32 5 2 := ⟨RX5, TX5, 7, rfl, inX5, by decide, fm_at 253 (by decide +kernel) (by decide +kernel)⟩
theorem lp_X5_32 : fm_lkP RX5 32 5 2 .int := ⟨RX5, TX5, 7, tyX5, rfl, inX5, by decide, fm_at 253 (by decide +kernel) (by decide +kernel), tyX5_ok, nmX5, rfl, by decide +kernel⟩
theorem lf_X6_12 : fm_lkF RX6 12 6 0 := ⟨RX6, TX6, 4, rfl, inX6, by decide, fm_at 177 (by decide +kernel) (by decide +kernel)⟩
theorem lf_X6_23 : fm_lkF RX6 23 6 1 := ⟨RX6, TX6, 4, rfl, inX6, by decide, fm_at 179 (by decide +kernel) (by decide +kernel)⟩
theorem lf_X6_27 : fm_lkF RX6 27 6 2 := ⟨RX6, TX6, 4, rfl, inX6, by decide, fm_at 181 (by decide +kernel) (by decide +kernel)⟩
theorem lf_X6_30 : fm_lkF RX6 30 6 3 := ⟨RX6, TX6, 4, rfl, inX6, by decide, fm_at 183 (by decide +kernel) (by decide +kernel)⟩
theorem lf_X7_9 : fm_lkF RX7 9 7 0 := ⟨RX7, TX7, 3, rfl, inX7, by decide, fm_at 285 (by decide +kernel) (by decide +kernel)⟩
theorem lp_X7_9 : fm_lkP RX7 9 7 0 .int := ⟨RX7, TX7, 3, tyX7, rfl, inX7, by decide, fm_at 285 (by decide +kernel) (by decide +kernel), tyX7_ok, nmX7, rfl, by decide +kernel⟩
theorem lf_X7_13 : fm_lkF RX7 13 7 2 := ⟨RX7, TX7, 3, rfl, inX7, by decide, fm_at 289 (by decide +kernel) (by decide +kernel)⟩
theorem lf_X7_17 : fm_lkF RX7 17 7 1 := ⟨RX7, TX7, 3, rfl, inX7, by decide, fm_at 287 (by decide +kernel) (by decide +kernel)⟩
theorem lp_X7_17 : fm_lkP RX7 17 7 1 .int := ⟨RX7, TX7, 3, tyX7, rfl, inX7, by decide, fm_at 287 (by decide +kernel) (by decide +kernel), tyX7_ok, nmX7, rfl, by decide +kernel⟩
theorem lf_X9_9 : fm_lkF RX9 9 9 1 := ⟨RX9, TX9, 35, rfl, inX9, by decide, fm_at 804 (by decide +kernel) (by decide +kernel)⟩
theorem lf_X9_15 : fm_lkF RX9 15 9 2 := ⟨RX9, TX9, 35, rfl, inX9, by decide, fm_at 805 (by decide +kernel) (by decide +kernel)⟩
theorem lf_X9_18 : fm_lkF RX9 18 9 4 := ⟨RX9, TX9, 35, rfl, inX9, by decide, fm_at 807 (by decide +kernel) (by decide +kernel)⟩
theorem lf_X9_21 : fm_lkF RX9 21 9 5 := ⟨RX9, TX9, 35, rfl, inX9, by decide, fm_at 808 (by decide +kernel) (by decide +kernel)⟩
theorem lf_X9_24 : fm_lkF RX9 24 9 6 := ⟨RX9, TX9, 35, rfl, inX9, by decide, fm_at 809 (by decide +kernel) (by decide +kernel)⟩
theorem lf_X9_27 : fm_lkF RX9 27 9 7 := ⟨RX9, TX9, 35, rfl, inX9, by decide, fm_at 810 (by decide +kernel) (by decide +kernel)⟩
theorem lf_X9_30 : fm_lkF RX9 30 9 8 := ⟨RX9, TX9, 35, rfl, inX9, by decide, fm_at 811 (by decide +kernel) (by decide +kernel)⟩
theorem lp_X9_30 : fm_lkP RX9 30 9 8 .int := ⟨RX9, TX9, 35, tyX9, rfl, inX9, by decide, fm_at 811 (by decide +kernel) (by decide +kernel), tyX9_ok, nmX9, rfl, by decide +kernel⟩
theorem lf_X9_34 : fm_lkF RX9 34 9 10 := ⟨RX9, TX9, 35, rfl, inX9, by decide, fm_at 813 (by decide +kernel) (by decide +kernel)⟩
theorem lf_X9_37 : fm_lkF RX9 37 9 11 := ⟨RX9, TX9, 35, rfl, inX9, by decide, fm_at 814 (by decide +kernel) (by decide +kernel)⟩
theorem lf_X9_40 : fm_lkF RX9 40 9 13 := ⟨RX9, TX9, 35, rfl, inX9, by decide, fm_at 816 (by decide +kernel) (by decide +kernel)⟩
theorem lf_X9_43 : fm_lkF RX9 43 9 14 := ⟨RX9, TX9, 35, rfl, inX9, by decide, fm_at 817 (by decide +kernel) (by decide +kernel)⟩
theorem lf_X9_46 : fm_lkF RX9 46 9 16 := ⟨RX9, TX9, 35, rfl, inX9, by decide, fm_at 819 (by decide +kernel) (by decide +kernel)⟩
theorem lf_X9_49 : fm_lkF RX9 49 9 18 := ⟨RX9, TX9, 35, rfl, inX9, by decide, fm_at 821 (by decide +kernel) (by decide +kernel)⟩
theorem lf_X9_52 : fm_lkF RX9 52 9 20 := ⟨RX9, TX9, 35, rfl, inX9, by decide, fm_at 823 (by decide +kernel) (by decide +kernel)⟩
theorem lf_X9_55 : fm_lkF RX9 55 9 21 := ⟨RX9, TX9, 35, rfl, inX9, by decide, fm_at 824 (by decide +kernel) (by decide +kernel)⟩
theorem lf_X9_59 : fm_lkF RX9 59 9 23 := ⟨RX9, TX9, 35, rfl, inX9, by decide, fm_at 826 (by decide +kernel) (by decide +kernel)⟩
theorem lf_X9_63 : fm_lkF RX9 63 9 24 := ⟨RX9, TX9, 35, rfl, inX9, by decide, fm_at 827 (by decide +kernel) (by decide +kernel)⟩
theorem lf_X9_66 : fm_lkF RX9 66 9 25 := ⟨RX9, TX9, 35, rfl, inX9, by decide, fm_at 828 (by decide +kernel) (by decide +kernel)⟩
theorem lf_X9_69 : fm_lkF RX9 69 9 26 := ⟨RX9, TX9, 35, rfl, inX9, by decide, fm_at 829 (by decide +kernel) (by decide +kernel)⟩
theorem lf_X9_72 : fm_lkF RX9 72 9 28 := ⟨RX9, TX9, 35, rfl, inX9, by decide, fm_at 831 (by decide +kernel) (by decide +kernel)⟩
theorem lf_X9_75 : fm_lkF RX9 75 9 29 := ⟨RX9, TX9, 35, rfl, inX9, by decide, fm_at 832 (by decide +kernel) (by decide +kernel)⟩
theorem lf_X9_78 : fm_lkF RX9 78 9 31 := ⟨RX9, TX9, 35, rfl, inX9, by decide, fm_at 834 (by decide +kernel) (by decide +kernel)⟩
theorem lf_X9_81 : fm_lkF RX9 81 9 32 := ⟨RX9, TX9, 35, rfl, inX9, by decide, fm_at 835 (by decide +kernel) (by decide +kernel)⟩
theorem lf_X9_84 : fm_lkF RX9 84 9 33 := ⟨RX9, TX9, 35, rfl, inX9, by decide, fm_at 836 (by decide +kernel) (by decide +kernel)⟩
theorem lf_X9_87 : fm_lkF RX9 87 9 34 := ⟨RX9, TX9, 35, rfl, inX9, by decide, fm_at 837 (by decide +kernel) (by decide +kernel)⟩
theorem lf_X9_90 : fm_lkF RX9 90 9 0 := ⟨RX9, TX9, 35, rfl, inX9, by decide, fm_at 803 (by decide +kernel) (by decide +kernel)⟩
theorem lp_X9_90 : fm_lkP RX9 90 9 0 .int := ⟨RX9, TX9, 35, tyX9, rfl, inX9, by decide, fm_at 803 (by decide +kernel) (by decide +kernel), tyX9_ok, nmX9, rfl, by decide +kernel⟩
theorem lf_X9_97 : fm_lkF RX9 97 9 3 := ⟨RX9, TX9, 35, rfl, inX9, by decide, fm_at 806 (by decide +kernel) (by decide +kernel)⟩
theorem lp_X9_97 : fm_lkP RX9 97 9 3 .int := ⟨RX9, TX9, 35, tyX9, rfl, inX9, by decide, fm_at 806 (by decide +kernel) (by decide +kernel), tyX9_ok, nmX9, rfl, by decide +kernel⟩
theorem lf_X9_121 : fm_lkF RX9 121 9 9 := ⟨RX9, TX9, 35, rfl, inX9, by decide, fm_at 812 (by decide +kernel) (by decide +kernel)⟩
theorem lp_X9_121 : fm_lkP RX9 121 9 9 .int := ⟨RX9, TX9, 35, tyX9, rfl, inX9, by decide, fm_at 812 (by decide +kernel) (by decide +kernel), tyX9_ok, nmX9, rfl, by decide +kernel⟩
theorem lf_X9_132 : fm_lkF RX9 132 9 19 := ⟨RX9, TX9, 35, rfl, inX9, by decide, fm_at 822 (by decide +kernel) (by decide +kernel)⟩
theorem lp_X9_132 : fm_lkP RX9 132 9 19 .int := ⟨RX9, TX9, 35, tyX9, rfl, inX9, by decide, fm_at 822 (by decide +kernel) (by decide +kernel), tyX9_ok, nmX9, rfl, by decide +kernel⟩
theorem lf_X9_188 : fm_lkF RX9 188 9 22 := ⟨RX9, TX9, 35, rfl, inX9, by decide, fm_at 825 (by decide +kernel) (by decide +kernel)⟩
theorem lp_X9_188 : fm_lkP RX9 188 9 22 .int := ⟨RX9, TX9, 35, tyX9, rfl, inX9, by decide, fm_at 825 (by decide +kernel) (by decide +kernel), tyX9_ok, nmX9, rfl, by decide +kernel⟩
theorem lf_X9_209 : fm_lkF RX9 209 9 27 := ⟨RX9, TX9, 35, rfl, inX9, by decide, fm_at 830 (by decide +kernel) (by decide +kernel)⟩
theorem lp_X9_209 : fm_lkP RX9 209 9 27 .int := ⟨RX9, TX9, 35, tyX9, rfl, inX9, by decide, fm_at 830 (by decide +kernel) (by decide +kernel), tyX9_ok, nmX9, rfl, by decide +kernel⟩
theorem lf_X9_268 : fm_lkF RX9 268 9 12 := ⟨RX9, TX9, 35, rfl, inX9, by decide, fm_at 815 (by decide +kernel) (by decide +kernel)⟩
theorem lp_X9_268 : fm_lkP RX9 268 9 12 .int := ⟨RX9, TX9, 35, tyX9, rfl, inX9, by decide, fm_at 815 (by decide +kernel) (by decide +kernel), tyX9_ok, nmX9, rfl, by decide +kernel⟩
theorem lf_X9_275 : fm_lkF RX9 275 9 15 := ⟨RX9, TX9, 35, rfl, inX9, by decide, fm_at 818 (by decide +kernel) (by decide +kernel)⟩
theorem lp_X9_275 : fm_lkP RX9 275 9 15 .int := ⟨RX9, TX9, 35, tyX9, rfl, inX9, by decide, fm_at 818 (by decide +kernel) (by decide +kernel), tyX9_ok, nmX9, rfl, by decide +kernel⟩
theorem lf_X9_278 : fm_lkF RX9 278 9 17 := ⟨RX9, TX9, 35, rfl, inX9, by decide, fm_at 820 (by decide +kernel) (by decide +kernel)⟩
theorem lp_X9_278 : fm_lkP RX9 278 9 17 .int := ⟨RX9, TX9, 35, tyX9, rfl, inX9, by decide, fm_at 820 (by decide +kernel) (by decide +kernel), tyX9_ok, nmX9, rfl, by decide +kernel⟩
theorem lf_X9_287 : fm_lkF RX9 287 9 30 := ⟨RX9, TX9, 35, rfl, inX9, by decide, fm_at 833 (by decide +kernel) (by decide +kernel)⟩
theorem lp_X9_287 : fm_lkP RX9 287 9 30 .boolean := ⟨RX9, TX9, 35, tyX9, rfl, inX9, by decide, fm_at 833 (by decide +kernel) (by decide +kernel), tyX9_ok, nmX9, rfl, by decide +kernel⟩
theorem wt_X8_isOdds : Cond.static yX8_isOdds ∈ fm_tb := fm_at 331 (by decide +kernel) (by decide +kernel)
theorem lm_X8_63 : fm_lkS RX8 63 mX8_isOdds 1 := ⟨⟨fm_at 330 (by decide +kernel) (by decide +kernel), wi_RX8, wc_X8_isOdds, by decide +kernel⟩, wt_X8_isOdds⟩
theorem wn_X3_addPart : Cond.instanceMethod yX3_addPart ∈ fm_tb := fm_at 334 (by decide +kernel) (by decide +kernel)
theorem we_X3_addPart : Cond.selects yX3_addPart.cls yX3_addPart yX3_addPart ∈ fm_tb := fm_at 335 (by decide +kernel) (by decide +kernel)
theorem lm_X8_70 : fm_lkV RX8 70 3 mX3_addPart 1 := ⟨⟨fm_at 333 (by decide +kernel) (by decide +kernel), wi_RX3, wc_X3_addPart, by decide +kernel⟩, wn_X3_addPart, we_X3_addPart, TX3, 14, rfl⟩
theorem wt_X8_isKind : Cond.static yX8_isKind ∈ fm_tb := fm_at 342 (by decide +kernel) (by decide +kernel)
theorem lm_X8_74 : fm_lkS RX8 74 mX8_isKind 1 := ⟨⟨fm_at 341 (by decide +kernel) (by decide +kernel), wi_RX8, wc_X8_isKind, by decide +kernel⟩, wt_X8_isKind⟩
theorem wt_X8_isNeed : Cond.static yX8_isNeed ∈ fm_tb := fm_at 345 (by decide +kernel) (by decide +kernel)
theorem lm_X8_77 : fm_lkS RX8 77 mX8_isNeed 1 := ⟨⟨fm_at 344 (by decide +kernel) (by decide +kernel), wi_RX8, wc_X8_isNeed, by decide +kernel⟩, wt_X8_isNeed⟩
theorem wn_X3_addGate : Cond.instanceMethod yX3_addGate ∈ fm_tb := fm_at 348 (by decide +kernel) (by decide +kernel)
theorem we_X3_addGate : Cond.selects yX3_addGate.cls yX3_addGate yX3_addGate ∈ fm_tb := fm_at 349 (by decide +kernel) (by decide +kernel)
theorem lm_X8_80 : fm_lkV RX8 80 3 mX3_addGate 2 := ⟨⟨fm_at 347 (by decide +kernel) (by decide +kernel), wi_RX3, wc_X3_addGate, by decide +kernel⟩, wn_X3_addGate, we_X3_addGate, TX3, 14, rfl⟩
theorem wn_X3_hasGate : Cond.instanceMethod yX3_hasGate ∈ fm_tb := fm_at 356 (by decide +kernel) (by decide +kernel)
theorem we_X3_hasGate : Cond.selects yX3_hasGate.cls yX3_hasGate yX3_hasGate ∈ fm_tb := fm_at 357 (by decide +kernel) (by decide +kernel)
theorem lm_X8_84 : fm_lkV RX8 84 3 mX3_hasGate 1 := ⟨⟨fm_at 355 (by decide +kernel) (by decide +kernel), wi_RX3, wc_X3_hasGate, by decide +kernel⟩, wn_X3_hasGate, we_X3_hasGate, TX3, 14, rfl⟩
theorem wn_X3_hasPart : Cond.instanceMethod yX3_hasPart ∈ fm_tb := fm_at 364 (by decide +kernel) (by decide +kernel)
theorem we_X3_hasPart : Cond.selects yX3_hasPart.cls yX3_hasPart yX3_hasPart ∈ fm_tb := fm_at 365 (by decide +kernel) (by decide +kernel)
theorem lm_X8_94 : fm_lkV RX8 94 3 mX3_hasPart 1 := ⟨⟨fm_at 363 (by decide +kernel) (by decide +kernel), wi_RX3, wc_X3_hasPart, by decide +kernel⟩, wn_X3_hasPart, we_X3_hasPart, TX3, 14, rfl⟩
theorem wn_X3_addInput : Cond.instanceMethod yX3_addInput ∈ fm_tb := fm_at 368 (by decide +kernel) (by decide +kernel)
theorem we_X3_addInput : Cond.selects yX3_addInput.cls yX3_addInput yX3_addInput ∈ fm_tb := fm_at 369 (by decide +kernel) (by decide +kernel)
theorem lm_X8_97 : fm_lkV RX8 97 3 mX3_addInput 2 := ⟨⟨fm_at 367 (by decide +kernel) (by decide +kernel), wi_RX3, wc_X3_addInput, by decide +kernel⟩, wn_X3_addInput, we_X3_addInput, TX3, 14, rfl⟩
theorem wn_X3_topGate : Cond.instanceMethod yX3_topGate ∈ fm_tb := fm_at 380 (by decide +kernel) (by decide +kernel)
theorem we_X3_topGate : Cond.selects yX3_topGate.cls yX3_topGate yX3_topGate ∈ fm_tb := fm_at 381 (by decide +kernel) (by decide +kernel)
theorem lm_X8_103 : fm_lkV RX8 103 3 mX3_topGate 0 := ⟨⟨fm_at 379 (by decide +kernel) (by decide +kernel), wi_RX3, wc_X3_topGate, by decide +kernel⟩, wn_X3_topGate, we_X3_topGate, TX3, 14, rfl⟩
theorem wn_X3_hasBits : Cond.instanceMethod yX3_hasBits ∈ fm_tb := fm_at 388 (by decide +kernel) (by decide +kernel)
theorem we_X3_hasBits : Cond.selects yX3_hasBits.cls yX3_hasBits yX3_hasBits ∈ fm_tb := fm_at 389 (by decide +kernel) (by decide +kernel)
theorem lm_X8_111 : fm_lkV RX8 111 3 mX3_hasBits 1 := ⟨⟨fm_at 387 (by decide +kernel) (by decide +kernel), wi_RX3, wc_X3_hasBits, by decide +kernel⟩, wn_X3_hasBits, we_X3_hasBits, TX3, 14, rfl⟩
theorem wn_X3_addCause : Cond.instanceMethod yX3_addCause ∈ fm_tb := fm_at 392 (by decide +kernel) (by decide +kernel)
theorem we_X3_addCause : Cond.selects yX3_addCause.cls yX3_addCause yX3_addCause ∈ fm_tb := fm_at 393 (by decide +kernel) (by decide +kernel)
theorem lm_X8_114 : fm_lkV RX8 114 3 mX3_addCause 2 := ⟨⟨fm_at 391 (by decide +kernel) (by decide +kernel), wi_RX3, wc_X3_addCause, by decide +kernel⟩, wn_X3_addCause, we_X3_addCause, TX3, 14, rfl⟩
theorem wn_X3_hasCause : Cond.instanceMethod yX3_hasCause ∈ fm_tb := fm_at 400 (by decide +kernel) (by decide +kernel)
theorem we_X3_hasCause : Cond.selects yX3_hasCause.cls yX3_hasCause yX3_hasCause ∈ fm_tb := fm_at 401 (by decide +kernel) (by decide +kernel)
theorem lm_X8_117 : fm_lkV RX8 117 3 mX3_hasCause 1 := ⟨⟨fm_at 399 (by decide +kernel) (by decide +kernel), wi_RX3, wc_X3_hasCause, by decide +kernel⟩, wn_X3_hasCause, we_X3_hasCause, TX3, 14, rfl⟩
theorem wn_X3_ofPart : Cond.instanceMethod yX3_ofPart ∈ fm_tb := fm_at 408 (by decide +kernel) (by decide +kernel)
theorem we_X3_ofPart : Cond.selects yX3_ofPart.cls yX3_ofPart yX3_ofPart ∈ fm_tb := fm_at 409 (by decide +kernel) (by decide +kernel)
theorem lm_X8_126 : fm_lkV RX8 126 3 mX3_ofPart 2 := ⟨⟨fm_at 407 (by decide +kernel) (by decide +kernel), wi_RX3, wc_X3_ofPart, by decide +kernel⟩, wn_X3_ofPart, we_X3_ofPart, TX3, 14, rfl⟩
theorem wn_X3_ofGate : Cond.instanceMethod yX3_ofGate ∈ fm_tb := fm_at 417 (by decide +kernel) (by decide +kernel)
theorem we_X3_ofGate : Cond.selects yX3_ofGate.cls yX3_ofGate yX3_ofGate ∈ fm_tb := fm_at 418 (by decide +kernel) (by decide +kernel)
theorem lm_X8_129 : fm_lkV RX8 129 3 mX3_ofGate 2 := ⟨⟨fm_at 416 (by decide +kernel) (by decide +kernel), wi_RX3, wc_X3_ofGate, by decide +kernel⟩, wn_X3_ofGate, we_X3_ofGate, TX3, 14, rfl⟩
theorem wn_X3_ofCause : Cond.instanceMethod yX3_ofCause ∈ fm_tb := fm_at 422 (by decide +kernel) (by decide +kernel)
theorem we_X3_ofCause : Cond.selects yX3_ofCause.cls yX3_ofCause yX3_ofCause ∈ fm_tb := fm_at 423 (by decide +kernel) (by decide +kernel)
theorem lm_X8_132 : fm_lkV RX8 132 3 mX3_ofCause 2 := ⟨⟨fm_at 421 (by decide +kernel) (by decide +kernel), wi_RX3, wc_X3_ofCause, by decide +kernel⟩, wn_X3_ofCause, we_X3_ofCause, TX3, 14, rfl⟩
theorem wn_X5_addSign : Cond.instanceMethod yX5_addSign ∈ fm_tb := fm_at 431 (by decide +kernel) (by decide +kernel)
theorem we_X5_addSign : Cond.selects yX5_addSign.cls yX5_addSign yX5_addSign ∈ fm_tb := fm_at 432 (by decide +kernel) (by decide +kernel)
theorem lm_X8_135 : fm_lkV RX8 135 5 mX5_addSign 1 := ⟨⟨fm_at 430 (by decide +kernel) (by decide +kernel), wi_RX5, wc_X5_addSign, by decide +kernel⟩, wn_X5_addSign, we_X5_addSign, TX5, 7, rfl⟩
theorem wn_X5_parse : Cond.instanceMethod yX5_parse ∈ fm_tb := fm_at 439 (by decide +kernel) (by decide +kernel)
theorem we_X5_parse : Cond.selects yX5_parse.cls yX5_parse yX5_parse ∈ fm_tb := fm_at 440 (by decide +kernel) (by decide +kernel)
theorem lm_X8_138 : fm_lkV RX8 138 5 mX5_parse 0 := ⟨⟨fm_at 438 (by decide +kernel) (by decide +kernel), wi_RX5, wc_X5_parse, by decide +kernel⟩, wn_X5_parse, we_X5_parse, TX5, 7, rfl⟩
theorem wn_X8_obey : Cond.instanceMethod yX8_obey ∈ fm_tb := fm_at 472 (by decide +kernel) (by decide +kernel)
theorem we_X8_obey : Cond.selects yX8_obey.cls yX8_obey yX8_obey ∈ fm_tb := fm_at 6 (by decide +kernel) (by decide +kernel)
theorem lm_X8_151 : fm_lkV RX8 151 8 mX8_obey 1 := ⟨⟨fm_at 470 (by decide +kernel) (by decide +kernel), wi_RX8, wc_X8_obey, by decide +kernel⟩, wn_X8_obey, we_X8_obey, TX8, 9, rfl⟩
theorem wn_X8_part : Cond.instanceMethod yX8_part ∈ fm_tb := fm_at 327 (by decide +kernel) (by decide +kernel)
theorem we_X8_part : Cond.selects yX8_part.cls yX8_part yX8_part ∈ fm_tb := fm_at 328 (by decide +kernel) (by decide +kernel)
theorem lm_X8_163 : fm_lkV RX8 163 8 mX8_part 1 := ⟨⟨fm_at 474 (by decide +kernel) (by decide +kernel), wi_RX8, wc_X8_part, by decide +kernel⟩, wn_X8_part, we_X8_part, TX8, 9, rfl⟩
theorem wn_X8_gate : Cond.instanceMethod yX8_gate ∈ fm_tb := fm_at 338 (by decide +kernel) (by decide +kernel)
theorem we_X8_gate : Cond.selects yX8_gate.cls yX8_gate yX8_gate ∈ fm_tb := fm_at 339 (by decide +kernel) (by decide +kernel)
theorem lm_X8_166 : fm_lkV RX8 166 8 mX8_gate 2 := ⟨⟨fm_at 475 (by decide +kernel) (by decide +kernel), wi_RX8, wc_X8_gate, by decide +kernel⟩, wn_X8_gate, we_X8_gate, TX8, 9, rfl⟩
theorem wn_X8_join : Cond.instanceMethod yX8_join ∈ fm_tb := fm_at 360 (by decide +kernel) (by decide +kernel)
theorem we_X8_join : Cond.selects yX8_join.cls yX8_join yX8_join ∈ fm_tb := fm_at 361 (by decide +kernel) (by decide +kernel)
theorem lm_X8_169 : fm_lkV RX8 169 8 mX8_join 3 := ⟨⟨fm_at 476 (by decide +kernel) (by decide +kernel), wi_RX8, wc_X8_join, by decide +kernel⟩, wn_X8_join, we_X8_join, TX8, 9, rfl⟩
theorem wn_X8_cause : Cond.instanceMethod yX8_cause ∈ fm_tb := fm_at 384 (by decide +kernel) (by decide +kernel)
theorem we_X8_cause : Cond.selects yX8_cause.cls yX8_cause yX8_cause ∈ fm_tb := fm_at 385 (by decide +kernel) (by decide +kernel)
theorem lm_X8_173 : fm_lkV RX8 173 8 mX8_cause 2 := ⟨⟨fm_at 477 (by decide +kernel) (by decide +kernel), wi_RX8, wc_X8_cause, by decide +kernel⟩, wn_X8_cause, we_X8_cause, TX8, 9, rfl⟩
theorem wn_X3_tableOf : Cond.instanceMethod yX3_tableOf ∈ fm_tb := fm_at 483 (by decide +kernel) (by decide +kernel)
theorem we_X3_tableOf : Cond.selects yX3_tableOf.cls yX3_tableOf yX3_tableOf ∈ fm_tb := fm_at 484 (by decide +kernel) (by decide +kernel)
theorem lm_X8_176 : fm_lkV RX8 176 3 mX3_tableOf 1 := ⟨⟨fm_at 482 (by decide +kernel) (by decide +kernel), wi_RX3, wc_X3_tableOf, by decide +kernel⟩, wn_X3_tableOf, we_X3_tableOf, TX3, 14, rfl⟩
theorem wt_X8_says : Cond.static yX8_says ∈ fm_tb := fm_at 502 (by decide +kernel) (by decide +kernel)
theorem lm_X8_180 : fm_lkS RX8 180 mX8_says 2 := ⟨⟨fm_at 501 (by decide +kernel) (by decide +kernel), wi_RX8, wc_X8_says, by decide +kernel⟩, wt_X8_says⟩
theorem wn_X3_hasPlace : Cond.instanceMethod yX3_hasPlace ∈ fm_tb := fm_at 509 (by decide +kernel) (by decide +kernel)
theorem we_X3_hasPlace : Cond.selects yX3_hasPlace.cls yX3_hasPlace yX3_hasPlace ∈ fm_tb := fm_at 510 (by decide +kernel) (by decide +kernel)
theorem lm_X8_184 : fm_lkV RX8 184 3 mX3_hasPlace 1 := ⟨⟨fm_at 508 (by decide +kernel) (by decide +kernel), wi_RX3, wc_X3_hasPlace, by decide +kernel⟩, wn_X3_hasPlace, we_X3_hasPlace, TX3, 14, rfl⟩
theorem wn_X3_putAt : Cond.instanceMethod yX3_putAt ∈ fm_tb := fm_at 513 (by decide +kernel) (by decide +kernel)
theorem we_X3_putAt : Cond.selects yX3_putAt.cls yX3_putAt yX3_putAt ∈ fm_tb := fm_at 514 (by decide +kernel) (by decide +kernel)
theorem lm_X8_187 : fm_lkV RX8 187 3 mX3_putAt 2 := ⟨⟨fm_at 512 (by decide +kernel) (by decide +kernel), wi_RX3, wc_X3_putAt, by decide +kernel⟩, wn_X3_putAt, we_X3_putAt, TX3, 14, rfl⟩
theorem wn_X8_sifted : Cond.instanceMethod yX8_sifted ∈ fm_tb := fm_at 522 (by decide +kernel) (by decide +kernel)
theorem we_X8_sifted : Cond.selects yX8_sifted.cls yX8_sifted yX8_sifted ∈ fm_tb := fm_at 10 (by decide +kernel) (by decide +kernel)
theorem lm_X8_193 : fm_lkV RX8 193 8 mX8_sifted 1 := ⟨⟨fm_at 520 (by decide +kernel) (by decide +kernel), wi_RX8, wc_X8_sifted, by decide +kernel⟩, wn_X8_sifted, we_X8_sifted, TX8, 9, rfl⟩
theorem wn_X3_copyFrom : Cond.instanceMethod yX3_copyFrom ∈ fm_tb := fm_at 525 (by decide +kernel) (by decide +kernel)
theorem we_X3_copyFrom : Cond.selects yX3_copyFrom.cls yX3_copyFrom yX3_copyFrom ∈ fm_tb := fm_at 526 (by decide +kernel) (by decide +kernel)
theorem lm_X8_196 : fm_lkV RX8 196 3 mX3_copyFrom 1 := ⟨⟨fm_at 524 (by decide +kernel) (by decide +kernel), wi_RX3, wc_X3_copyFrom, by decide +kernel⟩, wn_X3_copyFrom, we_X3_copyFrom, TX3, 14, rfl⟩
theorem wn_X3_topTable : Cond.instanceMethod yX3_topTable ∈ fm_tb := fm_at 532 (by decide +kernel) (by decide +kernel)
theorem we_X3_topTable : Cond.selects yX3_topTable.cls yX3_topTable yX3_topTable ∈ fm_tb := fm_at 533 (by decide +kernel) (by decide +kernel)
theorem lm_X8_200 : fm_lkV RX8 200 3 mX3_topTable 0 := ⟨⟨fm_at 531 (by decide +kernel) (by decide +kernel), wi_RX3, wc_X3_topTable, by decide +kernel⟩, wn_X3_topTable, we_X3_topTable, TX3, 14, rfl⟩
theorem wn_X1_draw : Cond.instanceMethod yX1_draw ∈ fm_tb := fm_at 538 (by decide +kernel) (by decide +kernel)
theorem we_X1_draw : Cond.selects yX1_draw.cls yX1_draw yX1_draw ∈ fm_tb := fm_at 539 (by decide +kernel) (by decide +kernel)
theorem lm_X8_207 : fm_lkV RX8 207 1 mX1_draw 2 := ⟨⟨fm_at 537 (by decide +kernel) (by decide +kernel), wi_RX1, wc_X1_draw, by decide +kernel⟩, wn_X1_draw, we_X1_draw, TX1, 5, rfl⟩
theorem wn_X1_ofNode : Cond.instanceMethod yX1_ofNode ∈ fm_tb := fm_at 568 (by decide +kernel) (by decide +kernel)
theorem we_X1_ofNode : Cond.selects yX1_ofNode.cls yX1_ofNode yX1_ofNode ∈ fm_tb := fm_at 569 (by decide +kernel) (by decide +kernel)
theorem lm_X8_214 : fm_lkV RX8 214 1 mX1_ofNode 2 := ⟨⟨fm_at 567 (by decide +kernel) (by decide +kernel), wi_RX1, wc_X1_ofNode, by decide +kernel⟩, wn_X1_ofNode, we_X1_ofNode, TX1, 5, rfl⟩
theorem wn_X8_toldOfTop : Cond.instanceMethod yX8_toldOfTop ∈ fm_tb := fm_at 577 (by decide +kernel) (by decide +kernel)
theorem we_X8_toldOfTop : Cond.selects yX8_toldOfTop.cls yX8_toldOfTop yX8_toldOfTop ∈ fm_tb := fm_at 13 (by decide +kernel) (by decide +kernel)
theorem lm_X8_220 : fm_lkV RX8 220 8 mX8_toldOfTop 1 := ⟨⟨fm_at 575 (by decide +kernel) (by decide +kernel), wi_RX8, wc_X8_toldOfTop, by decide +kernel⟩, wn_X8_toldOfTop, we_X8_toldOfTop, TX8, 9, rfl⟩
theorem wn_X2_listCuts : Cond.instanceMethod yX2_listCuts ∈ fm_tb := fm_at 580 (by decide +kernel) (by decide +kernel)
theorem we_X2_listCuts : Cond.selects yX2_listCuts.cls yX2_listCuts yX2_listCuts ∈ fm_tb := fm_at 581 (by decide +kernel) (by decide +kernel)
theorem lm_X8_223 : fm_lkV RX8 223 2 mX2_listCuts 2 := ⟨⟨fm_at 579 (by decide +kernel) (by decide +kernel), wi_RX2, wc_X2_listCuts, by decide +kernel⟩, wn_X2_listCuts, we_X2_listCuts, TX2, 2, rfl⟩
theorem wn_X2_listPaths : Cond.instanceMethod yX2_listPaths ∈ fm_tb := fm_at 602 (by decide +kernel) (by decide +kernel)
theorem we_X2_listPaths : Cond.selects yX2_listPaths.cls yX2_listPaths yX2_listPaths ∈ fm_tb := fm_at 603 (by decide +kernel) (by decide +kernel)
theorem lm_X8_227 : fm_lkV RX8 227 2 mX2_listPaths 2 := ⟨⟨fm_at 601 (by decide +kernel) (by decide +kernel), wi_RX2, wc_X2_listPaths, by decide +kernel⟩, wn_X2_listPaths, we_X2_listPaths, TX2, 2, rfl⟩
theorem wn_X0_mostOf : Cond.instanceMethod yX0_mostOf ∈ fm_tb := fm_at 609 (by decide +kernel) (by decide +kernel)
theorem we_X0_mostOf : Cond.selects yX0_mostOf.cls yX0_mostOf yX0_mostOf ∈ fm_tb := fm_at 610 (by decide +kernel) (by decide +kernel)
theorem lm_X8_230 : fm_lkV RX8 230 0 mX0_mostOf 2 := ⟨⟨fm_at 608 (by decide +kernel) (by decide +kernel), wi_RX0, wc_X0_mostOf, by decide +kernel⟩, wn_X0_mostOf, we_X0_mostOf, TX0, 1, rfl⟩
theorem wt_X8_sameness : Cond.static yX8_sameness ∈ fm_tb := fm_at 632 (by decide +kernel) (by decide +kernel)
theorem lm_X8_233 : fm_lkS RX8 233 mX8_sameness 1 := ⟨⟨fm_at 631 (by decide +kernel) (by decide +kernel), wi_RX8, wc_X8_sameness, by decide +kernel⟩, wt_X8_sameness⟩
theorem wn_X8_listCutsNow : Cond.instanceMethod yX8_listCutsNow ∈ fm_tb := fm_at 641 (by decide +kernel) (by decide +kernel)
theorem we_X8_listCutsNow : Cond.selects yX8_listCutsNow.cls yX8_listCutsNow yX8_listCutsNow ∈ fm_tb := fm_at 18 (by decide +kernel) (by decide +kernel)
theorem lm_X8_239 : fm_lkV RX8 239 8 mX8_listCutsNow 0 := ⟨⟨fm_at 639 (by decide +kernel) (by decide +kernel), wi_RX8, wc_X8_listCutsNow, by decide +kernel⟩, wn_X8_listCutsNow, we_X8_listCutsNow, TX8, 9, rfl⟩
theorem wn_X2_bitsOf : Cond.instanceMethod yX2_bitsOf ∈ fm_tb := fm_at 644 (by decide +kernel) (by decide +kernel)
theorem we_X2_bitsOf : Cond.selects yX2_bitsOf.cls yX2_bitsOf yX2_bitsOf ∈ fm_tb := fm_at 645 (by decide +kernel) (by decide +kernel)
theorem lm_X8_242 : fm_lkV RX8 242 2 mX2_bitsOf 1 := ⟨⟨fm_at 643 (by decide +kernel) (by decide +kernel), wi_RX2, wc_X2_bitsOf, by decide +kernel⟩, wn_X2_bitsOf, we_X2_bitsOf, TX2, 2, rfl⟩
theorem wt_X8_isLine : Cond.static yX8_isLine ∈ fm_tb := fm_at 656 (by decide +kernel) (by decide +kernel)
theorem lm_X8_245 : fm_lkS RX8 245 mX8_isLine 1 := ⟨⟨fm_at 655 (by decide +kernel) (by decide +kernel), wi_RX8, wc_X8_isLine, by decide +kernel⟩, wt_X8_isLine⟩
theorem wn_X0_above : Cond.instanceMethod yX0_above ∈ fm_tb := fm_at 618 (by decide +kernel) (by decide +kernel)
theorem we_X0_above : Cond.selects yX0_above.cls yX0_above yX0_above ∈ fm_tb := fm_at 619 (by decide +kernel) (by decide +kernel)
theorem lm_X8_250 : fm_lkV RX8 250 0 mX0_above 4 := ⟨⟨fm_at 659 (by decide +kernel) (by decide +kernel), wi_RX0, wc_X0_above, by decide +kernel⟩, wn_X0_above, we_X0_above, TX0, 1, rfl⟩
theorem wn_X0_below : Cond.instanceMethod yX0_below ∈ fm_tb := fm_at 661 (by decide +kernel) (by decide +kernel)
theorem we_X0_below : Cond.selects yX0_below.cls yX0_below yX0_below ∈ fm_tb := fm_at 662 (by decide +kernel) (by decide +kernel)
theorem lm_X8_254 : fm_lkV RX8 254 0 mX0_below 1 := ⟨⟨fm_at 660 (by decide +kernel) (by decide +kernel), wi_RX0, wc_X0_below, by decide +kernel⟩, wn_X0_below, we_X0_below, TX0, 1, rfl⟩
theorem wt_X8_lowest : Cond.static yX8_lowest ∈ fm_tb := fm_at 665 (by decide +kernel) (by decide +kernel)
theorem lm_X8_258 : fm_lkS RX8 258 mX8_lowest 3 := ⟨⟨fm_at 664 (by decide +kernel) (by decide +kernel), wi_RX8, wc_X8_lowest, by decide +kernel⟩, wt_X8_lowest⟩
theorem wn_X0_weightAbove : Cond.instanceMethod yX0_weightAbove ∈ fm_tb := fm_at 614 (by decide +kernel) (by decide +kernel)
theorem we_X0_weightAbove : Cond.selects yX0_weightAbove.cls yX0_weightAbove yX0_weightAbove ∈ fm_tb := fm_at 615 (by decide +kernel) (by decide +kernel)
theorem lm_X8_262 : fm_lkV RX8 262 0 mX0_weightAbove 3 := ⟨⟨fm_at 678 (by decide +kernel) (by decide +kernel), wi_RX0, wc_X0_weightAbove, by decide +kernel⟩, wn_X0_weightAbove, we_X0_weightAbove, TX0, 1, rfl⟩
theorem wn_X4_empty : Cond.instanceMethod yX4_empty ∈ fm_tb := fm_at 684 (by decide +kernel) (by decide +kernel)
theorem we_X4_empty : Cond.selects yX4_empty.cls yX4_empty yX4_empty ∈ fm_tb := fm_at 685 (by decide +kernel) (by decide +kernel)
theorem lm_X8_270 : fm_lkV RX8 270 4 mX4_empty 0 := ⟨⟨fm_at 683 (by decide +kernel) (by decide +kernel), wi_RX4, wc_X4_empty, by decide +kernel⟩, wn_X4_empty, we_X4_empty, TX4, 3, rfl⟩
theorem wn_X4_add : Cond.instanceMethod yX4_add ∈ fm_tb := fm_at 688 (by decide +kernel) (by decide +kernel)
theorem we_X4_add : Cond.selects yX4_add.cls yX4_add yX4_add ∈ fm_tb := fm_at 689 (by decide +kernel) (by decide +kernel)
theorem lm_X8_275 : fm_lkV RX8 275 4 mX4_add 2 := ⟨⟨fm_at 687 (by decide +kernel) (by decide +kernel), wi_RX4, wc_X4_add, by decide +kernel⟩, wn_X4_add, we_X4_add, TX4, 3, rfl⟩
theorem wn_X8_isAsSeen : Cond.instanceMethod yX8_isAsSeen ∈ fm_tb := fm_at 697 (by decide +kernel) (by decide +kernel)
theorem we_X8_isAsSeen : Cond.selects yX8_isAsSeen.cls yX8_isAsSeen yX8_isAsSeen ∈ fm_tb := fm_at 19 (by decide +kernel) (by decide +kernel)
theorem lm_X8_278 : fm_lkV RX8 278 8 mX8_isAsSeen 1 := ⟨⟨fm_at 695 (by decide +kernel) (by decide +kernel), wi_RX8, wc_X8_isAsSeen, by decide +kernel⟩, wn_X8_isAsSeen, we_X8_isAsSeen, TX8, 9, rfl⟩
theorem wn_X2_partsTogether : Cond.instanceMethod yX2_partsTogether ∈ fm_tb := fm_at 704 (by decide +kernel) (by decide +kernel)
theorem we_X2_partsTogether : Cond.selects yX2_partsTogether.cls yX2_partsTogether yX2_partsTogether ∈ fm_tb := fm_at 705 (by decide +kernel) (by decide +kernel)
theorem lm_X8_285 : fm_lkV RX8 285 2 mX2_partsTogether 0 := ⟨⟨fm_at 703 (by decide +kernel) (by decide +kernel), wi_RX2, wc_X2_partsTogether, by decide +kernel⟩, wn_X2_partsTogether, we_X2_partsTogether, TX2, 2, rfl⟩
theorem wn_X3_undergo : Cond.instanceMethod yX3_undergo ∈ fm_tb := fm_at 716 (by decide +kernel) (by decide +kernel)
theorem we_X3_undergo : Cond.selects yX3_undergo.cls yX3_undergo yX3_undergo ∈ fm_tb := fm_at 717 (by decide +kernel) (by decide +kernel)
theorem lm_X8_291 : fm_lkV RX8 291 3 mX3_undergo 2 := ⟨⟨fm_at 715 (by decide +kernel) (by decide +kernel), wi_RX3, wc_X3_undergo, by decide +kernel⟩, wn_X3_undergo, we_X3_undergo, TX3, 14, rfl⟩
theorem wn_X2_has : Cond.instanceMethod yX2_has ∈ fm_tb := fm_at 728 (by decide +kernel) (by decide +kernel)
theorem we_X2_has : Cond.selects yX2_has.cls yX2_has yX2_has ∈ fm_tb := fm_at 729 (by decide +kernel) (by decide +kernel)
theorem lm_X8_298 : fm_lkV RX8 298 2 mX2_has 1 := ⟨⟨fm_at 727 (by decide +kernel) (by decide +kernel), wi_RX2, wc_X2_has, by decide +kernel⟩, wn_X2_has, we_X2_has, TX2, 2, rfl⟩
theorem wn_X8_tapeOf : Cond.instanceMethod yX8_tapeOf ∈ fm_tb := fm_at 737 (by decide +kernel) (by decide +kernel)
theorem we_X8_tapeOf : Cond.selects yX8_tapeOf.cls yX8_tapeOf yX8_tapeOf ∈ fm_tb := fm_at 20 (by decide +kernel) (by decide +kernel)
theorem lm_X8_301 : fm_lkV RX8 301 8 mX8_tapeOf 1 := ⟨⟨fm_at 735 (by decide +kernel) (by decide +kernel), wi_RX8, wc_X8_tapeOf, by decide +kernel⟩, wn_X8_tapeOf, we_X8_tapeOf, TX8, 9, rfl⟩
theorem wn_X6_copyFrom : Cond.instanceMethod yX6_copyFrom ∈ fm_tb := fm_at 744 (by decide +kernel) (by decide +kernel)
theorem we_X6_copyFrom : Cond.selects yX6_copyFrom.cls yX6_copyFrom yX6_copyFrom ∈ fm_tb := fm_at 745 (by decide +kernel) (by decide +kernel)
theorem lm_X8_319 : fm_lkV RX8 319 6 mX6_copyFrom 1 := ⟨⟨fm_at 743 (by decide +kernel) (by decide +kernel), wi_RX6, wc_X6_copyFrom, by decide +kernel⟩, wn_X6_copyFrom, we_X6_copyFrom, TX6, 4, rfl⟩
theorem wn_X7_become : Cond.instanceMethod yX7_become ∈ fm_tb := fm_at 769 (by decide +kernel) (by decide +kernel)
theorem we_X7_become : Cond.selects yX7_become.cls yX7_become yX7_become ∈ fm_tb := fm_at 770 (by decide +kernel) (by decide +kernel)
theorem lm_X8_326 : fm_lkV RX8 326 7 mX7_become 2 := ⟨⟨fm_at 768 (by decide +kernel) (by decide +kernel), wi_RX7, wc_X7_become, by decide +kernel⟩, wn_X7_become, we_X7_become, TX7, 3, rfl⟩
theorem wn_X7_hasPlace : Cond.instanceMethod yX7_hasPlace ∈ fm_tb := fm_at 777 (by decide +kernel) (by decide +kernel)
theorem we_X7_hasPlace : Cond.selects yX7_hasPlace.cls yX7_hasPlace yX7_hasPlace ∈ fm_tb := fm_at 778 (by decide +kernel) (by decide +kernel)
theorem lm_X8_329 : fm_lkV RX8 329 7 mX7_hasPlace 1 := ⟨⟨fm_at 776 (by decide +kernel) (by decide +kernel), wi_RX7, wc_X7_hasPlace, by decide +kernel⟩, wn_X7_hasPlace, we_X7_hasPlace, TX7, 3, rfl⟩
theorem wn_X7_asItem : Cond.instanceMethod yX7_asItem ∈ fm_tb := fm_at 781 (by decide +kernel) (by decide +kernel)
theorem we_X7_asItem : Cond.selects yX7_asItem.cls yX7_asItem yX7_asItem ∈ fm_tb := fm_at 782 (by decide +kernel) (by decide +kernel)
theorem lm_X8_330 : fm_lkV RX8 330 7 mX7_asItem 1 := ⟨⟨fm_at 780 (by decide +kernel) (by decide +kernel), wi_RX7, wc_X7_asItem, by decide +kernel⟩, wn_X7_asItem, we_X7_asItem, TX7, 3, rfl⟩
theorem wn_X7_hasRun : Cond.instanceMethod yX7_hasRun ∈ fm_tb := fm_at 793 (by decide +kernel) (by decide +kernel)
theorem we_X7_hasRun : Cond.selects yX7_hasRun.cls yX7_hasRun yX7_hasRun ∈ fm_tb := fm_at 794 (by decide +kernel) (by decide +kernel)
theorem lm_X8_334 : fm_lkV RX8 334 7 mX7_hasRun 2 := ⟨⟨fm_at 792 (by decide +kernel) (by decide +kernel), wi_RX7, wc_X7_hasRun, by decide +kernel⟩, wn_X7_hasRun, we_X7_hasRun, TX7, 3, rfl⟩
theorem wt_X8_commonDivisor : Cond.static yX8_commonDivisor ∈ fm_tb := fm_at 668 (by decide +kernel) (by decide +kernel)
theorem lm_X8_344 : fm_lkS RX8 344 mX8_commonDivisor 2 := ⟨⟨fm_at 667 (by decide +kernel) (by decide +kernel), wi_RX8, wc_X8_commonDivisor, by decide +kernel⟩, wt_X8_commonDivisor⟩
theorem wn_X0_spread : Cond.instanceMethod yX0_spread ∈ fm_tb := fm_at 623 (by decide +kernel) (by decide +kernel)
theorem we_X0_spread : Cond.selects yX0_spread.cls yX0_spread yX0_spread ∈ fm_tb := fm_at 16 (by decide +kernel) (by decide +kernel)
theorem lm_X0_30 : fm_lkV RX0 30 0 mX0_spread 3 := ⟨⟨fm_at 621 (by decide +kernel) (by decide +kernel), wi_RX0, wc_X0_spread, by decide +kernel⟩, wn_X0_spread, we_X0_spread, TX0, 1, rfl⟩
theorem wn_X0_sumOver : Cond.instanceMethod yX0_sumOver ∈ fm_tb := fm_at 628 (by decide +kernel) (by decide +kernel)
theorem we_X0_sumOver : Cond.selects yX0_sumOver.cls yX0_sumOver yX0_sumOver ∈ fm_tb := fm_at 17 (by decide +kernel) (by decide +kernel)
theorem lm_X0_40 : fm_lkV RX0 40 0 mX0_sumOver 2 := ⟨⟨fm_at 626 (by decide +kernel) (by decide +kernel), wi_RX0, wc_X0_sumOver, by decide +kernel⟩, wn_X0_sumOver, we_X0_sumOver, TX0, 1, rfl⟩
theorem lm_X0_48 : fm_lkV RX0 48 0 mX0_above 4 := ⟨⟨fm_at 617 (by decide +kernel) (by decide +kernel), wi_RX0, wc_X0_above, by decide +kernel⟩, wn_X0_above, we_X0_above, TX0, 1, rfl⟩
theorem lm_X0_54 : fm_lkV RX0 54 0 mX0_weightAbove 3 := ⟨⟨fm_at 613 (by decide +kernel) (by decide +kernel), wi_RX0, wc_X0_weightAbove, by decide +kernel⟩, wn_X0_weightAbove, we_X0_weightAbove, TX0, 1, rfl⟩
theorem wn_X1_meet : Cond.instanceMethod yX1_meet ∈ fm_tb := fm_at 543 (by decide +kernel) (by decide +kernel)
theorem we_X1_meet : Cond.selects yX1_meet.cls yX1_meet yX1_meet ∈ fm_tb := fm_at 11 (by decide +kernel) (by decide +kernel)
theorem lm_X1_29 : fm_lkV RX1 29 1 mX1_meet 3 := ⟨⟨fm_at 541 (by decide +kernel) (by decide +kernel), wi_RX1, wc_X1_meet, by decide +kernel⟩, wn_X1_meet, we_X1_meet, TX1, 5, rfl⟩
theorem wn_X1_met : Cond.instanceMethod yX1_met ∈ fm_tb := fm_at 548 (by decide +kernel) (by decide +kernel)
theorem we_X1_met : Cond.selects yX1_met.cls yX1_met yX1_met ∈ fm_tb := fm_at 12 (by decide +kernel) (by decide +kernel)
theorem lm_X1_37 : fm_lkV RX1 37 1 mX1_met 1 := ⟨⟨fm_at 546 (by decide +kernel) (by decide +kernel), wi_RX1, wc_X1_met, by decide +kernel⟩, wn_X1_met, we_X1_met, TX1, 5, rfl⟩
theorem wt_X1_firstPlace : Cond.static yX1_firstPlace ∈ fm_tb := fm_at 551 (by decide +kernel) (by decide +kernel)
theorem lm_X1_41 : fm_lkS RX1 41 mX1_firstPlace 3 := ⟨⟨fm_at 550 (by decide +kernel) (by decide +kernel), wi_RX1, wc_X1_firstPlace, by decide +kernel⟩, wt_X1_firstPlace⟩
theorem wt_X3_ifWorks : Cond.static yX3_ifWorks ∈ fm_tb := fm_at 554 (by decide +kernel) (by decide +kernel)
theorem lm_X1_50 : fm_lkS RX1 50 mX3_ifWorks 2 := ⟨⟨fm_at 553 (by decide +kernel) (by decide +kernel), wi_RX3, wc_X3_ifWorks, by decide +kernel⟩, wt_X3_ifWorks⟩
theorem wt_X3_ifFails : Cond.static yX3_ifFails ∈ fm_tb := fm_at 557 (by decide +kernel) (by decide +kernel)
theorem lm_X1_54 : fm_lkS RX1 54 mX3_ifFails 2 := ⟨⟨fm_at 556 (by decide +kernel) (by decide +kernel), wi_RX3, wc_X3_ifFails, by decide +kernel⟩, wt_X3_ifFails⟩
theorem wn_X2_list : Cond.instanceMethod yX2_list ∈ fm_tb := fm_at 585 (by decide +kernel) (by decide +kernel)
theorem we_X2_list : Cond.selects yX2_list.cls yX2_list yX2_list ∈ fm_tb := fm_at 14 (by decide +kernel) (by decide +kernel)
theorem lm_X2_15 : fm_lkV RX2 15 2 mX2_list 2 := ⟨⟨fm_at 583 (by decide +kernel) (by decide +kernel), wi_RX2, wc_X2_list, by decide +kernel⟩, wn_X2_list, we_X2_list, TX2, 2, rfl⟩
theorem wt_X2_keepsUp : Cond.static yX2_keepsUp ∈ fm_tb := fm_at 606 (by decide +kernel) (by decide +kernel)
theorem lm_X2_19 : fm_lkS RX2 19 mX2_keepsUp 1 := ⟨⟨fm_at 605 (by decide +kernel) (by decide +kernel), wi_RX2, wc_X2_keepsUp, by decide +kernel⟩, wt_X2_keepsUp⟩
theorem wt_J6_bitCount_0f7a4 : Cond.static yJ6_bitCount_0f7a4 ∈ fm_tb := fm_at 588 (by decide +kernel) (by decide +kernel)
theorem lm_X2_31 : fm_lkS RX2 31 mJ6_bitCount_0f7a4 1 := ⟨⟨fm_at 587 (by decide +kernel) (by decide +kernel), wi_RJ6, wc_J6_bitCount_0f7a4, by decide +kernel⟩, wt_J6_bitCount_0f7a4⟩
theorem wt_X2_isLeast : Cond.static yX2_isLeast ∈ fm_tb := fm_at 594 (by decide +kernel) (by decide +kernel)
theorem lm_X2_37 : fm_lkS RX2 37 mX2_isLeast 3 := ⟨⟨fm_at 593 (by decide +kernel) (by decide +kernel), wi_RX2, wc_X2_isLeast, by decide +kernel⟩, wt_X2_isLeast⟩
theorem wn_X2_keep : Cond.instanceMethod yX2_keep ∈ fm_tb := fm_at 599 (by decide +kernel) (by decide +kernel)
theorem we_X2_keep : Cond.selects yX2_keep.cls yX2_keep yX2_keep ∈ fm_tb := fm_at 15 (by decide +kernel) (by decide +kernel)
theorem lm_X2_41 : fm_lkV RX2 41 2 mX2_keep 1 := ⟨⟨fm_at 597 (by decide +kernel) (by decide +kernel), wi_RX2, wc_X2_keep, by decide +kernel⟩, wn_X2_keep, we_X2_keep, TX2, 2, rfl⟩
theorem lm_X3_50 : fm_lkV RX3 50 3 mX3_hasPart 1 := ⟨⟨fm_at 411 (by decide +kernel) (by decide +kernel), wi_RX3, wc_X3_hasPart, by decide +kernel⟩, wn_X3_hasPart, we_X3_hasPart, TX3, 14, rfl⟩
theorem wn_X3_placeOf : Cond.instanceMethod yX3_placeOf ∈ fm_tb := fm_at 413 (by decide +kernel) (by decide +kernel)
theorem we_X3_placeOf : Cond.selects yX3_placeOf.cls yX3_placeOf yX3_placeOf ∈ fm_tb := fm_at 414 (by decide +kernel) (by decide +kernel)
theorem lm_X3_60 : fm_lkV RX3 60 3 mX3_placeOf 1 := ⟨⟨fm_at 412 (by decide +kernel) (by decide +kernel), wi_RX3, wc_X3_placeOf, by decide +kernel⟩, wn_X3_placeOf, we_X3_placeOf, TX3, 14, rfl⟩
theorem lm_X3_64 : fm_lkV RX3 64 3 mX3_hasGate 1 := ⟨⟨fm_at 420 (by decide +kernel) (by decide +kernel), wi_RX3, wc_X3_hasGate, by decide +kernel⟩, wn_X3_hasGate, we_X3_hasGate, TX3, 14, rfl⟩
theorem lm_X3_67 : fm_lkV RX3 67 3 mX3_hasCause 1 := ⟨⟨fm_at 425 (by decide +kernel) (by decide +kernel), wi_RX3, wc_X3_hasCause, by decide +kernel⟩, wn_X3_hasCause, we_X3_hasCause, TX3, 14, rfl⟩
theorem lm_X3_70 : fm_lkV RX3 70 3 mX3_topGate 0 := ⟨⟨fm_at 535 (by decide +kernel) (by decide +kernel), wi_RX3, wc_X3_topGate, by decide +kernel⟩, wn_X3_topGate, we_X3_topGate, TX3, 14, rfl⟩
theorem lm_X3_74 : fm_lkV RX3 74 3 mX3_tableOf 1 := ⟨⟨fm_at 536 (by decide +kernel) (by decide +kernel), wi_RX3, wc_X3_tableOf, by decide +kernel⟩, wn_X3_tableOf, we_X3_tableOf, TX3, 14, rfl⟩
theorem wn_X3_gateTable : Cond.instanceMethod yX3_gateTable ∈ fm_tb := fm_at 488 (by decide +kernel) (by decide +kernel)
theorem we_X3_gateTable : Cond.selects yX3_gateTable.cls yX3_gateTable yX3_gateTable ∈ fm_tb := fm_at 7 (by decide +kernel) (by decide +kernel)
theorem lm_X3_78 : fm_lkV RX3 78 3 mX3_gateTable 1 := ⟨⟨fm_at 486 (by decide +kernel) (by decide +kernel), wi_RX3, wc_X3_gateTable, by decide +kernel⟩, wn_X3_gateTable, we_X3_gateTable, TX3, 14, rfl⟩
theorem wn_X3_countInputs : Cond.instanceMethod yX3_countInputs ∈ fm_tb := fm_at 492 (by decide +kernel) (by decide +kernel)
theorem we_X3_countInputs : Cond.selects yX3_countInputs.cls yX3_countInputs yX3_countInputs ∈ fm_tb := fm_at 8 (by decide +kernel) (by decide +kernel)
theorem lm_X3_81 : fm_lkV RX3 81 3 mX3_countInputs 2 := ⟨⟨fm_at 490 (by decide +kernel) (by decide +kernel), wi_RX3, wc_X3_countInputs, by decide +kernel⟩, wn_X3_countInputs, we_X3_countInputs, TX3, 14, rfl⟩
theorem wn_X3_inputTable : Cond.instanceMethod yX3_inputTable ∈ fm_tb := fm_at 497 (by decide +kernel) (by decide +kernel)
theorem we_X3_inputTable : Cond.selects yX3_inputTable.cls yX3_inputTable yX3_inputTable ∈ fm_tb := fm_at 9 (by decide +kernel) (by decide +kernel)
theorem lm_X3_87 : fm_lkV RX3 87 3 mX3_inputTable 1 := ⟨⟨fm_at 495 (by decide +kernel) (by decide +kernel), wi_RX3, wc_X3_inputTable, by decide +kernel⟩, wn_X3_inputTable, we_X3_inputTable, TX3, 14, rfl⟩
theorem wt_J9_max_7cf53 : Cond.static yJ9_max_7cf53 ∈ fm_tb := fm_at 162 (by decide +kernel) (by decide +kernel)
theorem lm_X4_9 : fm_lkS RX4 9 mJ9_max_7cf53 2 := ⟨⟨fm_at 161 (by decide +kernel) (by decide +kernel), wi_RJ9, wc_J9_max_7cf53, by decide +kernel⟩, wt_J9_max_7cf53⟩
theorem wt_J9_min_7cf53 : Cond.static yJ9_min_7cf53 ∈ fm_tb := fm_at 753 (by decide +kernel) (by decide +kernel)
theorem lm_X4_28 : fm_lkS RX4 28 mJ9_min_7cf53 2 := ⟨⟨fm_at 752 (by decide +kernel) (by decide +kernel), wi_RJ9, wc_J9_min_7cf53, by decide +kernel⟩, wt_J9_min_7cf53⟩
theorem wn_X5_parseClause : Cond.instanceMethod yX5_parseClause ∈ fm_tb := fm_at 444 (by decide +kernel) (by decide +kernel)
theorem we_X5_parseClause : Cond.selects yX5_parseClause.cls yX5_parseClause yX5_parseClause ∈ fm_tb := fm_at 0 (by decide +kernel) (by decide +kernel)
theorem lm_X5_35 : fm_lkV RX5 35 5 mX5_parseClause 0 := ⟨⟨fm_at 442 (by decide +kernel) (by decide +kernel), wi_RX5, wc_X5_parseClause, by decide +kernel⟩, wn_X5_parseClause, we_X5_parseClause, TX5, 7, rfl⟩
theorem wn_X5_passes : Cond.instanceMethod yX5_passes ∈ fm_tb := fm_at 448 (by decide +kernel) (by decide +kernel)
theorem we_X5_passes : Cond.selects yX5_passes.cls yX5_passes yX5_passes ∈ fm_tb := fm_at 1 (by decide +kernel) (by decide +kernel)
theorem lm_X5_39 : fm_lkV RX5 39 5 mX5_passes 1 := ⟨⟨fm_at 446 (by decide +kernel) (by decide +kernel), wi_RX5, wc_X5_passes, by decide +kernel⟩, wn_X5_passes, we_X5_passes, TX5, 7, rfl⟩
theorem wn_X5_digits : Cond.instanceMethod yX5_digits ∈ fm_tb := fm_at 452 (by decide +kernel) (by decide +kernel)
theorem we_X5_digits : Cond.selects yX5_digits.cls yX5_digits yX5_digits ∈ fm_tb := fm_at 2 (by decide +kernel) (by decide +kernel)
theorem lm_X5_43 : fm_lkV RX5 43 5 mX5_digits 1 := ⟨⟨fm_at 450 (by decide +kernel) (by decide +kernel), wi_RX5, wc_X5_digits, by decide +kernel⟩, wn_X5_digits, we_X5_digits, TX5, 7, rfl⟩
theorem wn_X5_keep : Cond.instanceMethod yX5_keep ∈ fm_tb := fm_at 460 (by decide +kernel) (by decide +kernel)
theorem we_X5_keep : Cond.selects yX5_keep.cls yX5_keep yX5_keep ∈ fm_tb := fm_at 3 (by decide +kernel) (by decide +kernel)
theorem lm_X5_47 : fm_lkV RX5 47 5 mX5_keep 3 := ⟨⟨fm_at 458 (by decide +kernel) (by decide +kernel), wi_RX5, wc_X5_keep, by decide +kernel⟩, wn_X5_keep, we_X5_keep, TX5, 7, rfl⟩
theorem wn_X5_parseInput : Cond.instanceMethod yX5_parseInput ∈ fm_tb := fm_at 464 (by decide +kernel) (by decide +kernel)
theorem we_X5_parseInput : Cond.selects yX5_parseInput.cls yX5_parseInput yX5_parseInput ∈ fm_tb := fm_at 4 (by decide +kernel) (by decide +kernel)
theorem lm_X5_51 : fm_lkV RX5 51 5 mX5_parseInput 0 := ⟨⟨fm_at 462 (by decide +kernel) (by decide +kernel), wi_RX5, wc_X5_parseInput, by decide +kernel⟩, wn_X5_parseInput, we_X5_parseInput, TX5, 7, rfl⟩
theorem wn_X5_parseCause : Cond.instanceMethod yX5_parseCause ∈ fm_tb := fm_at 468 (by decide +kernel) (by decide +kernel)
theorem we_X5_parseCause : Cond.selects yX5_parseCause.cls yX5_parseCause yX5_parseCause ∈ fm_tb := fm_at 5 (by decide +kernel) (by decide +kernel)
theorem lm_X5_54 : fm_lkV RX5 54 5 mX5_parseCause 0 := ⟨⟨fm_at 466 (by decide +kernel) (by decide +kernel), wi_RX5, wc_X5_parseCause, by decide +kernel⟩, wn_X5_parseCause, we_X5_parseCause, TX5, 7, rfl⟩
theorem wt_X5_isDigit : Cond.static yX5_isDigit ∈ fm_tb := fm_at 455 (by decide +kernel) (by decide +kernel)
theorem lm_X5_57 : fm_lkS RX5 57 mX5_isDigit 1 := ⟨⟨fm_at 454 (by decide +kernel) (by decide +kernel), wi_RX5, wc_X5_isDigit, by decide +kernel⟩, wt_X5_isDigit⟩
theorem lm_X5_60 : fm_lkS RX5 60 mJ9_max_7cf53 2 := ⟨⟨fm_at 457 (by decide +kernel) (by decide +kernel), wi_RJ9, wc_J9_max_7cf53, by decide +kernel⟩, wt_J9_max_7cf53⟩
theorem lm_X6_33 : fm_lkV RX6 33 3 mX3_copyFrom 1 := ⟨⟨fm_at 747 (by decide +kernel) (by decide +kernel), wi_RX3, wc_X3_copyFrom, by decide +kernel⟩, wn_X3_copyFrom, we_X3_copyFrom, TX3, 14, rfl⟩
theorem wn_X4_copyFrom : Cond.instanceMethod yX4_copyFrom ∈ fm_tb := fm_at 749 (by decide +kernel) (by decide +kernel)
theorem we_X4_copyFrom : Cond.selects yX4_copyFrom.cls yX4_copyFrom yX4_copyFrom ∈ fm_tb := fm_at 750 (by decide +kernel) (by decide +kernel)
theorem lm_X6_37 : fm_lkV RX6 37 4 mX4_copyFrom 1 := ⟨⟨fm_at 748 (by decide +kernel) (by decide +kernel), wi_RX4, wc_X4_copyFrom, by decide +kernel⟩, wn_X4_copyFrom, we_X4_copyFrom, TX4, 3, rfl⟩
theorem lm_L_13 : fm_lkV RL 13 8 mX8_part 1 := ⟨⟨fm_at 326 (by decide +kernel) (by decide +kernel), wi_RX8, wc_X8_part, by decide +kernel⟩, wn_X8_part, we_X8_part, TX8, 9, rfl⟩
theorem wn_X9_part : Cond.instanceMethod yX9_part ∈ fm_tb := fm_at 911 (by decide +kernel) (by decide +kernel)
theorem we_X9_part : Cond.selects yX9_part.cls yX9_part yX9_part ∈ fm_tb := fm_at 912 (by decide +kernel) (by decide +kernel)
theorem lm_L_17 : fm_lkV RL 17 9 mX9_part 1 := ⟨⟨fm_at 910 (by decide +kernel) (by decide +kernel), wi_RX9, wc_X9_part, by decide +kernel⟩, wn_X9_part, we_X9_part, TX9, 35, rfl⟩
theorem lm_L_18 : fm_lkV RL 18 8 mX8_gate 2 := ⟨⟨fm_at 337 (by decide +kernel) (by decide +kernel), wi_RX8, wc_X8_gate, by decide +kernel⟩, wn_X8_gate, we_X8_gate, TX8, 9, rfl⟩
theorem wn_X9_gate : Cond.instanceMethod yX9_gate ∈ fm_tb := fm_at 921 (by decide +kernel) (by decide +kernel)
theorem we_X9_gate : Cond.selects yX9_gate.cls yX9_gate yX9_gate ∈ fm_tb := fm_at 922 (by decide +kernel) (by decide +kernel)
theorem lm_L_22 : fm_lkV RL 22 9 mX9_gate 2 := ⟨⟨fm_at 920 (by decide +kernel) (by decide +kernel), wi_RX9, wc_X9_gate, by decide +kernel⟩, wn_X9_gate, we_X9_gate, TX9, 35, rfl⟩
theorem wn_X8_turn : Cond.instanceMethod yX8_turn ∈ fm_tb := fm_at 352 (by decide +kernel) (by decide +kernel)
theorem we_X8_turn : Cond.selects yX8_turn.cls yX8_turn yX8_turn ∈ fm_tb := fm_at 353 (by decide +kernel) (by decide +kernel)
theorem lm_L_23 : fm_lkV RL 23 8 mX8_turn 3 := ⟨⟨fm_at 351 (by decide +kernel) (by decide +kernel), wi_RX8, wc_X8_turn, by decide +kernel⟩, wn_X8_turn, we_X8_turn, TX8, 9, rfl⟩
theorem wn_X9_turn : Cond.instanceMethod yX9_turn ∈ fm_tb := fm_at 928 (by decide +kernel) (by decide +kernel)
theorem we_X9_turn : Cond.selects yX9_turn.cls yX9_turn yX9_turn ∈ fm_tb := fm_at 929 (by decide +kernel) (by decide +kernel)
theorem lm_L_27 : fm_lkV RL 27 9 mX9_turn 3 := ⟨⟨fm_at 927 (by decide +kernel) (by decide +kernel), wi_RX9, wc_X9_turn, by decide +kernel⟩, wn_X9_turn, we_X9_turn, TX9, 35, rfl⟩
theorem lm_L_28 : fm_lkV RL 28 8 mX8_join 3 := ⟨⟨fm_at 359 (by decide +kernel) (by decide +kernel), wi_RX8, wc_X8_join, by decide +kernel⟩, wn_X8_join, we_X8_join, TX8, 9, rfl⟩
theorem wn_X9_join : Cond.instanceMethod yX9_join ∈ fm_tb := fm_at 936 (by decide +kernel) (by decide +kernel)
theorem we_X9_join : Cond.selects yX9_join.cls yX9_join yX9_join ∈ fm_tb := fm_at 937 (by decide +kernel) (by decide +kernel)
theorem lm_L_32 : fm_lkV RL 32 9 mX9_join 3 := ⟨⟨fm_at 935 (by decide +kernel) (by decide +kernel), wi_RX9, wc_X9_join, by decide +kernel⟩, wn_X9_join, we_X9_join, TX9, 35, rfl⟩
theorem wn_X8_drop : Cond.instanceMethod yX8_drop ∈ fm_tb := fm_at 372 (by decide +kernel) (by decide +kernel)
theorem we_X8_drop : Cond.selects yX8_drop.cls yX8_drop yX8_drop ∈ fm_tb := fm_at 373 (by decide +kernel) (by decide +kernel)
theorem lm_L_33 : fm_lkV RL 33 8 mX8_drop 1 := ⟨⟨fm_at 371 (by decide +kernel) (by decide +kernel), wi_RX8, wc_X8_drop, by decide +kernel⟩, wn_X8_drop, we_X8_drop, TX8, 9, rfl⟩
theorem wn_X9_drop : Cond.instanceMethod yX9_drop ∈ fm_tb := fm_at 944 (by decide +kernel) (by decide +kernel)
theorem we_X9_drop : Cond.selects yX9_drop.cls yX9_drop yX9_drop ∈ fm_tb := fm_at 945 (by decide +kernel) (by decide +kernel)
theorem lm_L_36 : fm_lkV RL 36 9 mX9_drop 1 := ⟨⟨fm_at 943 (by decide +kernel) (by decide +kernel), wi_RX9, wc_X9_drop, by decide +kernel⟩, wn_X9_drop, we_X9_drop, TX9, 35, rfl⟩
theorem wn_X8_top : Cond.instanceMethod yX8_top ∈ fm_tb := fm_at 376 (by decide +kernel) (by decide +kernel)
theorem we_X8_top : Cond.selects yX8_top.cls yX8_top yX8_top ∈ fm_tb := fm_at 377 (by decide +kernel) (by decide +kernel)
theorem lm_L_37 : fm_lkV RL 37 8 mX8_top 1 := ⟨⟨fm_at 375 (by decide +kernel) (by decide +kernel), wi_RX8, wc_X8_top, by decide +kernel⟩, wn_X8_top, we_X8_top, TX8, 9, rfl⟩
theorem wn_X9_top : Cond.instanceMethod yX9_top ∈ fm_tb := fm_at 948 (by decide +kernel) (by decide +kernel)
theorem we_X9_top : Cond.selects yX9_top.cls yX9_top yX9_top ∈ fm_tb := fm_at 949 (by decide +kernel) (by decide +kernel)
theorem lm_L_40 : fm_lkV RL 40 9 mX9_top 1 := ⟨⟨fm_at 947 (by decide +kernel) (by decide +kernel), wi_RX9, wc_X9_top, by decide +kernel⟩, wn_X9_top, we_X9_top, TX9, 35, rfl⟩
theorem lm_L_41 : fm_lkV RL 41 8 mX8_cause 2 := ⟨⟨fm_at 383 (by decide +kernel) (by decide +kernel), wi_RX8, wc_X8_cause, by decide +kernel⟩, wn_X8_cause, we_X8_cause, TX8, 9, rfl⟩
theorem wn_X9_cause : Cond.instanceMethod yX9_cause ∈ fm_tb := fm_at 956 (by decide +kernel) (by decide +kernel)
theorem we_X9_cause : Cond.selects yX9_cause.cls yX9_cause yX9_cause ∈ fm_tb := fm_at 957 (by decide +kernel) (by decide +kernel)
theorem lm_L_44 : fm_lkV RL 44 9 mX9_cause 2 := ⟨⟨fm_at 955 (by decide +kernel) (by decide +kernel), wi_RX9, wc_X9_cause, by decide +kernel⟩, wn_X9_cause, we_X9_cause, TX9, 35, rfl⟩
theorem wn_X8_odds : Cond.instanceMethod yX8_odds ∈ fm_tb := fm_at 396 (by decide +kernel) (by decide +kernel)
theorem we_X8_odds : Cond.selects yX8_odds.cls yX8_odds yX8_odds ∈ fm_tb := fm_at 397 (by decide +kernel) (by decide +kernel)
theorem lm_L_45 : fm_lkV RL 45 8 mX8_odds 3 := ⟨⟨fm_at 395 (by decide +kernel) (by decide +kernel), wi_RX8, wc_X8_odds, by decide +kernel⟩, wn_X8_odds, we_X8_odds, TX8, 9, rfl⟩
theorem wn_X9_odds : Cond.instanceMethod yX9_odds ∈ fm_tb := fm_at 964 (by decide +kernel) (by decide +kernel)
theorem we_X9_odds : Cond.selects yX9_odds.cls yX9_odds yX9_odds ∈ fm_tb := fm_at 965 (by decide +kernel) (by decide +kernel)
theorem lm_L_48 : fm_lkV RL 48 9 mX9_odds 3 := ⟨⟨fm_at 963 (by decide +kernel) (by decide +kernel), wi_RX9, wc_X9_odds, by decide +kernel⟩, wn_X9_odds, we_X9_odds, TX9, 35, rfl⟩
theorem wn_X8_of : Cond.instanceMethod yX8_of ∈ fm_tb := fm_at 404 (by decide +kernel) (by decide +kernel)
theorem we_X8_of : Cond.selects yX8_of.cls yX8_of yX8_of ∈ fm_tb := fm_at 405 (by decide +kernel) (by decide +kernel)
theorem lm_L_49 : fm_lkV RL 49 8 mX8_of 3 := ⟨⟨fm_at 403 (by decide +kernel) (by decide +kernel), wi_RX8, wc_X8_of, by decide +kernel⟩, wn_X8_of, we_X8_of, TX8, 9, rfl⟩
theorem wn_X9_of : Cond.instanceMethod yX9_of ∈ fm_tb := fm_at 968 (by decide +kernel) (by decide +kernel)
theorem we_X9_of : Cond.selects yX9_of.cls yX9_of yX9_of ∈ fm_tb := fm_at 969 (by decide +kernel) (by decide +kernel)
theorem lm_L_52 : fm_lkV RL 52 9 mX9_of 3 := ⟨⟨fm_at 967 (by decide +kernel) (by decide +kernel), wi_RX9, wc_X9_of, by decide +kernel⟩, wn_X9_of, we_X9_of, TX9, 35, rfl⟩
theorem wn_X8_feed : Cond.instanceMethod yX8_feed ∈ fm_tb := fm_at 427 (by decide +kernel) (by decide +kernel)
theorem we_X8_feed : Cond.selects yX8_feed.cls yX8_feed yX8_feed ∈ fm_tb := fm_at 428 (by decide +kernel) (by decide +kernel)
theorem lm_L_53 : fm_lkV RL 53 8 mX8_feed 1 := ⟨⟨fm_at 426 (by decide +kernel) (by decide +kernel), wi_RX8, wc_X8_feed, by decide +kernel⟩, wn_X8_feed, we_X8_feed, TX8, 9, rfl⟩
theorem wn_X9_feed : Cond.instanceMethod yX9_feed ∈ fm_tb := fm_at 980 (by decide +kernel) (by decide +kernel)
theorem we_X9_feed : Cond.selects yX9_feed.cls yX9_feed yX9_feed ∈ fm_tb := fm_at 981 (by decide +kernel) (by decide +kernel)
theorem lm_L_56 : fm_lkV RL 56 9 mX9_feed 1 := ⟨⟨fm_at 979 (by decide +kernel) (by decide +kernel), wi_RX9, wc_X9_feed, by decide +kernel⟩, wn_X9_feed, we_X9_feed, TX9, 35, rfl⟩
theorem wn_X8_read : Cond.instanceMethod yX8_read ∈ fm_tb := fm_at 435 (by decide +kernel) (by decide +kernel)
theorem we_X8_read : Cond.selects yX8_read.cls yX8_read yX8_read ∈ fm_tb := fm_at 436 (by decide +kernel) (by decide +kernel)
theorem lm_L_57 : fm_lkV RL 57 8 mX8_read 0 := ⟨⟨fm_at 434 (by decide +kernel) (by decide +kernel), wi_RX8, wc_X8_read, by decide +kernel⟩, wn_X8_read, we_X8_read, TX8, 9, rfl⟩
theorem wn_X9_read : Cond.instanceMethod yX9_read ∈ fm_tb := fm_at 984 (by decide +kernel) (by decide +kernel)
theorem we_X9_read : Cond.selects yX9_read.cls yX9_read yX9_read ∈ fm_tb := fm_at 985 (by decide +kernel) (by decide +kernel)
theorem lm_L_61 : fm_lkV RL 61 9 mX9_read 0 := ⟨⟨fm_at 983 (by decide +kernel) (by decide +kernel), wi_RX9, wc_X9_read, by decide +kernel⟩, wn_X9_read, we_X9_read, TX9, 35, rfl⟩
theorem wn_X8_fails : Cond.instanceMethod yX8_fails ∈ fm_tb := fm_at 479 (by decide +kernel) (by decide +kernel)
theorem we_X8_fails : Cond.selects yX8_fails.cls yX8_fails yX8_fails ∈ fm_tb := fm_at 480 (by decide +kernel) (by decide +kernel)
theorem lm_L_62 : fm_lkV RL 62 8 mX8_fails 2 := ⟨⟨fm_at 478 (by decide +kernel) (by decide +kernel), wi_RX8, wc_X8_fails, by decide +kernel⟩, wn_X8_fails, we_X8_fails, TX8, 9, rfl⟩
theorem wn_X9_fails : Cond.instanceMethod yX9_fails ∈ fm_tb := fm_at 1024 (by decide +kernel) (by decide +kernel)
theorem we_X9_fails : Cond.selects yX9_fails.cls yX9_fails yX9_fails ∈ fm_tb := fm_at 1025 (by decide +kernel) (by decide +kernel)
theorem lm_L_65 : fm_lkV RL 65 9 mX9_fails 2 := ⟨⟨fm_at 1023 (by decide +kernel) (by decide +kernel), wi_RX9, wc_X9_fails, by decide +kernel⟩, wn_X9_fails, we_X9_fails, TX9, 35, rfl⟩
theorem wn_X8_move : Cond.instanceMethod yX8_move ∈ fm_tb := fm_at 505 (by decide +kernel) (by decide +kernel)
theorem we_X8_move : Cond.selects yX8_move.cls yX8_move yX8_move ∈ fm_tb := fm_at 506 (by decide +kernel) (by decide +kernel)
theorem lm_L_66 : fm_lkV RL 66 8 mX8_move 2 := ⟨⟨fm_at 504 (by decide +kernel) (by decide +kernel), wi_RX8, wc_X8_move, by decide +kernel⟩, wn_X8_move, we_X8_move, TX8, 9, rfl⟩
theorem wn_X9_move : Cond.instanceMethod yX9_move ∈ fm_tb := fm_at 1036 (by decide +kernel) (by decide +kernel)
theorem we_X9_move : Cond.selects yX9_move.cls yX9_move yX9_move ∈ fm_tb := fm_at 1037 (by decide +kernel) (by decide +kernel)
theorem lm_L_69 : fm_lkV RL 69 9 mX9_move 2 := ⟨⟨fm_at 1035 (by decide +kernel) (by decide +kernel), wi_RX9, wc_X9_move, by decide +kernel⟩, wn_X9_move, we_X9_move, TX9, 35, rfl⟩
theorem wn_X8_sift : Cond.instanceMethod yX8_sift ∈ fm_tb := fm_at 517 (by decide +kernel) (by decide +kernel)
theorem we_X8_sift : Cond.selects yX8_sift.cls yX8_sift yX8_sift ∈ fm_tb := fm_at 518 (by decide +kernel) (by decide +kernel)
theorem lm_L_70 : fm_lkV RL 70 8 mX8_sift 1 := ⟨⟨fm_at 516 (by decide +kernel) (by decide +kernel), wi_RX8, wc_X8_sift, by decide +kernel⟩, wn_X8_sift, we_X8_sift, TX8, 9, rfl⟩
theorem wn_X9_sift : Cond.instanceMethod yX9_sift ∈ fm_tb := fm_at 1048 (by decide +kernel) (by decide +kernel)
theorem we_X9_sift : Cond.selects yX9_sift.cls yX9_sift yX9_sift ∈ fm_tb := fm_at 1049 (by decide +kernel) (by decide +kernel)
theorem lm_L_73 : fm_lkV RL 73 9 mX9_sift 1 := ⟨⟨fm_at 1047 (by decide +kernel) (by decide +kernel), wi_RX9, wc_X9_sift, by decide +kernel⟩, wn_X9_sift, we_X9_sift, TX9, 35, rfl⟩
theorem wn_X8_at : Cond.instanceMethod yX8_at ∈ fm_tb := fm_at 560 (by decide +kernel) (by decide +kernel)
theorem we_X8_at : Cond.selects yX8_at.cls yX8_at yX8_at ∈ fm_tb := fm_at 561 (by decide +kernel) (by decide +kernel)
theorem lm_L_74 : fm_lkV RL 74 8 mX8_at 1 := ⟨⟨fm_at 559 (by decide +kernel) (by decide +kernel), wi_RX8, wc_X8_at, by decide +kernel⟩, wn_X8_at, we_X8_at, TX8, 9, rfl⟩
theorem wn_X9_at : Cond.instanceMethod yX9_at ∈ fm_tb := fm_at 1044 (by decide +kernel) (by decide +kernel)
theorem we_X9_at : Cond.selects yX9_at.cls yX9_at yX9_at ∈ fm_tb := fm_at 1045 (by decide +kernel) (by decide +kernel)
theorem lm_L_77 : fm_lkV RL 77 9 mX9_at 1 := ⟨⟨fm_at 1043 (by decide +kernel) (by decide +kernel), wi_RX9, wc_X9_at, by decide +kernel⟩, wn_X9_at, we_X9_at, TX9, 35, rfl⟩
theorem wn_X8_node : Cond.instanceMethod yX8_node ∈ fm_tb := fm_at 564 (by decide +kernel) (by decide +kernel)
theorem we_X8_node : Cond.selects yX8_node.cls yX8_node yX8_node ∈ fm_tb := fm_at 565 (by decide +kernel) (by decide +kernel)
theorem lm_L_78 : fm_lkV RL 78 8 mX8_node 2 := ⟨⟨fm_at 563 (by decide +kernel) (by decide +kernel), wi_RX8, wc_X8_node, by decide +kernel⟩, wn_X8_node, we_X8_node, TX8, 9, rfl⟩
theorem wn_X9_node : Cond.instanceMethod yX9_node ∈ fm_tb := fm_at 1073 (by decide +kernel) (by decide +kernel)
theorem we_X9_node : Cond.selects yX9_node.cls yX9_node yX9_node ∈ fm_tb := fm_at 1074 (by decide +kernel) (by decide +kernel)
theorem lm_L_81 : fm_lkV RL 81 9 mX9_node 2 := ⟨⟨fm_at 1072 (by decide +kernel) (by decide +kernel), wi_RX9, wc_X9_node, by decide +kernel⟩, wn_X9_node, we_X9_node, TX9, 35, rfl⟩
theorem wn_X8_told : Cond.instanceMethod yX8_told ∈ fm_tb := fm_at 572 (by decide +kernel) (by decide +kernel)
theorem we_X8_told : Cond.selects yX8_told.cls yX8_told yX8_told ∈ fm_tb := fm_at 573 (by decide +kernel) (by decide +kernel)
theorem lm_L_82 : fm_lkV RL 82 8 mX8_told 1 := ⟨⟨fm_at 571 (by decide +kernel) (by decide +kernel), wi_RX8, wc_X8_told, by decide +kernel⟩, wn_X8_told, we_X8_told, TX8, 9, rfl⟩
theorem wn_X9_told : Cond.instanceMethod yX9_told ∈ fm_tb := fm_at 1148 (by decide +kernel) (by decide +kernel)
theorem we_X9_told : Cond.selects yX9_told.cls yX9_told yX9_told ∈ fm_tb := fm_at 1149 (by decide +kernel) (by decide +kernel)
theorem lm_L_85 : fm_lkV RL 85 9 mX9_told 1 := ⟨⟨fm_at 1147 (by decide +kernel) (by decide +kernel), wi_RX9, wc_X9_told, by decide +kernel⟩, wn_X9_told, we_X9_told, TX9, 35, rfl⟩
theorem wn_X8_cut : Cond.instanceMethod yX8_cut ∈ fm_tb := fm_at 636 (by decide +kernel) (by decide +kernel)
theorem we_X8_cut : Cond.selects yX8_cut.cls yX8_cut yX8_cut ∈ fm_tb := fm_at 637 (by decide +kernel) (by decide +kernel)
theorem lm_L_86 : fm_lkV RL 86 8 mX8_cut 1 := ⟨⟨fm_at 635 (by decide +kernel) (by decide +kernel), wi_RX8, wc_X8_cut, by decide +kernel⟩, wn_X8_cut, we_X8_cut, TX8, 9, rfl⟩
theorem wn_X9_cut : Cond.instanceMethod yX9_cut ∈ fm_tb := fm_at 1077 (by decide +kernel) (by decide +kernel)
theorem we_X9_cut : Cond.selects yX9_cut.cls yX9_cut yX9_cut ∈ fm_tb := fm_at 1078 (by decide +kernel) (by decide +kernel)
theorem lm_L_89 : fm_lkV RL 89 9 mX9_cut 1 := ⟨⟨fm_at 1076 (by decide +kernel) (by decide +kernel), wi_RX9, wc_X9_cut, by decide +kernel⟩, wn_X9_cut, we_X9_cut, TX9, 35, rfl⟩
theorem wn_X8_path : Cond.instanceMethod yX8_path ∈ fm_tb := fm_at 648 (by decide +kernel) (by decide +kernel)
theorem we_X8_path : Cond.selects yX8_path.cls yX8_path yX8_path ∈ fm_tb := fm_at 649 (by decide +kernel) (by decide +kernel)
theorem lm_L_90 : fm_lkV RL 90 8 mX8_path 1 := ⟨⟨fm_at 647 (by decide +kernel) (by decide +kernel), wi_RX8, wc_X8_path, by decide +kernel⟩, wn_X8_path, we_X8_path, TX8, 9, rfl⟩
theorem wn_X9_path : Cond.instanceMethod yX9_path ∈ fm_tb := fm_at 1100 (by decide +kernel) (by decide +kernel)
theorem we_X9_path : Cond.selects yX9_path.cls yX9_path yX9_path ∈ fm_tb := fm_at 1101 (by decide +kernel) (by decide +kernel)
theorem lm_L_93 : fm_lkV RL 93 9 mX9_path 1 := ⟨⟨fm_at 1099 (by decide +kernel) (by decide +kernel), wi_RX9, wc_X9_path, by decide +kernel⟩, wn_X9_path, we_X9_path, TX9, 35, rfl⟩
theorem wn_X8_chance : Cond.instanceMethod yX8_chance ∈ fm_tb := fm_at 652 (by decide +kernel) (by decide +kernel)
theorem we_X8_chance : Cond.selects yX8_chance.cls yX8_chance yX8_chance ∈ fm_tb := fm_at 653 (by decide +kernel) (by decide +kernel)
theorem lm_L_94 : fm_lkV RL 94 8 mX8_chance 1 := ⟨⟨fm_at 651 (by decide +kernel) (by decide +kernel), wi_RX8, wc_X8_chance, by decide +kernel⟩, wn_X8_chance, we_X8_chance, TX8, 9, rfl⟩
theorem wn_X9_chance_ : Cond.instanceMethod yX9_chance_ ∈ fm_tb := fm_at 1104 (by decide +kernel) (by decide +kernel)
theorem we_X9_chance_ : Cond.selects yX9_chance_.cls yX9_chance_ yX9_chance_ ∈ fm_tb := fm_at 1105 (by decide +kernel) (by decide +kernel)
theorem lm_L_98 : fm_lkV RL 98 9 mX9_chance_ 1 := ⟨⟨fm_at 1103 (by decide +kernel) (by decide +kernel), wi_RX9, wc_X9_chance_, by decide +kernel⟩, wn_X9_chance_, we_X9_chance_, TX9, 35, rfl⟩
theorem wn_X8_given : Cond.instanceMethod yX8_given ∈ fm_tb := fm_at 671 (by decide +kernel) (by decide +kernel)
theorem we_X8_given : Cond.selects yX8_given.cls yX8_given yX8_given ∈ fm_tb := fm_at 672 (by decide +kernel) (by decide +kernel)
theorem lm_L_99 : fm_lkV RL 99 8 mX8_given 3 := ⟨⟨fm_at 670 (by decide +kernel) (by decide +kernel), wi_RX8, wc_X8_given, by decide +kernel⟩, wn_X8_given, we_X8_given, TX8, 9, rfl⟩
theorem wn_X9_given : Cond.instanceMethod yX9_given ∈ fm_tb := fm_at 1136 (by decide +kernel) (by decide +kernel)
theorem we_X9_given : Cond.selects yX9_given.cls yX9_given yX9_given ∈ fm_tb := fm_at 1137 (by decide +kernel) (by decide +kernel)
theorem lm_L_103 : fm_lkV RL 103 9 mX9_given 3 := ⟨⟨fm_at 1135 (by decide +kernel) (by decide +kernel), wi_RX9, wc_X9_given, by decide +kernel⟩, wn_X9_given, we_X9_given, TX9, 35, rfl⟩
theorem wn_X8_weight : Cond.instanceMethod yX8_weight ∈ fm_tb := fm_at 675 (by decide +kernel) (by decide +kernel)
theorem we_X8_weight : Cond.selects yX8_weight.cls yX8_weight yX8_weight ∈ fm_tb := fm_at 676 (by decide +kernel) (by decide +kernel)
theorem lm_L_104 : fm_lkV RL 104 8 mX8_weight 2 := ⟨⟨fm_at 674 (by decide +kernel) (by decide +kernel), wi_RX8, wc_X8_weight, by decide +kernel⟩, wn_X8_weight, we_X8_weight, TX8, 9, rfl⟩
theorem wn_X9_weight_ : Cond.instanceMethod yX9_weight_ ∈ fm_tb := fm_at 1140 (by decide +kernel) (by decide +kernel)
theorem we_X9_weight_ : Cond.selects yX9_weight_.cls yX9_weight_ yX9_weight_ ∈ fm_tb := fm_at 1141 (by decide +kernel) (by decide +kernel)
theorem lm_L_108 : fm_lkV RL 108 9 mX9_weight_ 2 := ⟨⟨fm_at 1139 (by decide +kernel) (by decide +kernel), wi_RX9, wc_X9_weight_, by decide +kernel⟩, wn_X9_weight_, we_X9_weight_, TX9, 35, rfl⟩
theorem wn_X8_see : Cond.instanceMethod yX8_see ∈ fm_tb := fm_at 680 (by decide +kernel) (by decide +kernel)
theorem we_X8_see : Cond.selects yX8_see.cls yX8_see yX8_see ∈ fm_tb := fm_at 681 (by decide +kernel) (by decide +kernel)
theorem lm_L_109 : fm_lkV RL 109 8 mX8_see 2 := ⟨⟨fm_at 679 (by decide +kernel) (by decide +kernel), wi_RX8, wc_X8_see, by decide +kernel⟩, wn_X8_see, we_X8_see, TX8, 9, rfl⟩
theorem wn_X9_see : Cond.instanceMethod yX9_see ∈ fm_tb := fm_at 1168 (by decide +kernel) (by decide +kernel)
theorem we_X9_see : Cond.selects yX9_see.cls yX9_see yX9_see ∈ fm_tb := fm_at 1169 (by decide +kernel) (by decide +kernel)
theorem lm_L_113 : fm_lkV RL 113 9 mX9_see 2 := ⟨⟨fm_at 1167 (by decide +kernel) (by decide +kernel), wi_RX9, wc_X9_see, by decide +kernel⟩, wn_X9_see, we_X9_see, TX9, 35, rfl⟩
theorem wn_X8_fits : Cond.instanceMethod yX8_fits ∈ fm_tb := fm_at 692 (by decide +kernel) (by decide +kernel)
theorem we_X8_fits : Cond.selects yX8_fits.cls yX8_fits yX8_fits ∈ fm_tb := fm_at 693 (by decide +kernel) (by decide +kernel)
theorem lm_L_114 : fm_lkV RL 114 8 mX8_fits 2 := ⟨⟨fm_at 691 (by decide +kernel) (by decide +kernel), wi_RX8, wc_X8_fits, by decide +kernel⟩, wn_X8_fits, we_X8_fits, TX8, 9, rfl⟩
theorem wn_X9_fits : Cond.instanceMethod yX9_fits ∈ fm_tb := fm_at 1172 (by decide +kernel) (by decide +kernel)
theorem we_X9_fits : Cond.selects yX9_fits.cls yX9_fits yX9_fits ∈ fm_tb := fm_at 1173 (by decide +kernel) (by decide +kernel)
theorem lm_L_117 : fm_lkV RL 117 9 mX9_fits 2 := ⟨⟨fm_at 1171 (by decide +kernel) (by decide +kernel), wi_RX9, wc_X9_fits, by decide +kernel⟩, wn_X9_fits, we_X9_fits, TX9, 35, rfl⟩
theorem wn_X8_mean : Cond.instanceMethod yX8_mean ∈ fm_tb := fm_at 700 (by decide +kernel) (by decide +kernel)
theorem we_X8_mean : Cond.selects yX8_mean.cls yX8_mean yX8_mean ∈ fm_tb := fm_at 701 (by decide +kernel) (by decide +kernel)
theorem lm_L_118 : fm_lkV RL 118 8 mX8_mean 1 := ⟨⟨fm_at 699 (by decide +kernel) (by decide +kernel), wi_RX8, wc_X8_mean, by decide +kernel⟩, wn_X8_mean, we_X8_mean, TX8, 9, rfl⟩
theorem wn_X9_mean : Cond.instanceMethod yX9_mean ∈ fm_tb := fm_at 1180 (by decide +kernel) (by decide +kernel)
theorem we_X9_mean : Cond.selects yX9_mean.cls yX9_mean yX9_mean ∈ fm_tb := fm_at 1181 (by decide +kernel) (by decide +kernel)
theorem lm_L_121 : fm_lkV RL 121 9 mX9_mean 1 := ⟨⟨fm_at 1179 (by decide +kernel) (by decide +kernel), wi_RX9, wc_X9_mean, by decide +kernel⟩, wn_X9_mean, we_X9_mean, TX9, 35, rfl⟩
theorem wn_X8_event : Cond.instanceMethod yX8_event ∈ fm_tb := fm_at 708 (by decide +kernel) (by decide +kernel)
theorem we_X8_event : Cond.selects yX8_event.cls yX8_event yX8_event ∈ fm_tb := fm_at 709 (by decide +kernel) (by decide +kernel)
theorem lm_L_122 : fm_lkV RL 122 8 mX8_event 2 := ⟨⟨fm_at 707 (by decide +kernel) (by decide +kernel), wi_RX8, wc_X8_event, by decide +kernel⟩, wn_X8_event, we_X8_event, TX8, 9, rfl⟩
theorem wn_X9_event : Cond.instanceMethod yX9_event ∈ fm_tb := fm_at 1184 (by decide +kernel) (by decide +kernel)
theorem we_X9_event : Cond.selects yX9_event.cls yX9_event yX9_event ∈ fm_tb := fm_at 1185 (by decide +kernel) (by decide +kernel)
theorem lm_L_125 : fm_lkV RL 125 9 mX9_event 2 := ⟨⟨fm_at 1183 (by decide +kernel) (by decide +kernel), wi_RX9, wc_X9_event, by decide +kernel⟩, wn_X9_event, we_X9_event, TX9, 35, rfl⟩
theorem wn_X8_after : Cond.instanceMethod yX8_after ∈ fm_tb := fm_at 712 (by decide +kernel) (by decide +kernel)
theorem we_X8_after : Cond.selects yX8_after.cls yX8_after yX8_after ∈ fm_tb := fm_at 713 (by decide +kernel) (by decide +kernel)
theorem lm_L_126 : fm_lkV RL 126 8 mX8_after 1 := ⟨⟨fm_at 711 (by decide +kernel) (by decide +kernel), wi_RX8, wc_X8_after, by decide +kernel⟩, wn_X8_after, we_X8_after, TX8, 9, rfl⟩
theorem wn_X9_after : Cond.instanceMethod yX9_after ∈ fm_tb := fm_at 1188 (by decide +kernel) (by decide +kernel)
theorem we_X9_after : Cond.selects yX9_after.cls yX9_after yX9_after ∈ fm_tb := fm_at 1189 (by decide +kernel) (by decide +kernel)
theorem lm_L_129 : fm_lkV RL 129 9 mX9_after 1 := ⟨⟨fm_at 1187 (by decide +kernel) (by decide +kernel), wi_RX9, wc_X9_after, by decide +kernel⟩, wn_X9_after, we_X9_after, TX9, 35, rfl⟩
theorem wn_X8_book : Cond.instanceMethod yX8_book ∈ fm_tb := fm_at 720 (by decide +kernel) (by decide +kernel)
theorem we_X8_book : Cond.selects yX8_book.cls yX8_book yX8_book ∈ fm_tb := fm_at 721 (by decide +kernel) (by decide +kernel)
theorem lm_L_130 : fm_lkV RL 130 8 mX8_book 1 := ⟨⟨fm_at 719 (by decide +kernel) (by decide +kernel), wi_RX8, wc_X8_book, by decide +kernel⟩, wn_X8_book, we_X8_book, TX8, 9, rfl⟩
theorem wn_X9_book : Cond.instanceMethod yX9_book ∈ fm_tb := fm_at 1192 (by decide +kernel) (by decide +kernel)
theorem we_X9_book : Cond.selects yX9_book.cls yX9_book yX9_book ∈ fm_tb := fm_at 1193 (by decide +kernel) (by decide +kernel)
theorem lm_L_133 : fm_lkV RL 133 9 mX9_book 1 := ⟨⟨fm_at 1191 (by decide +kernel) (by decide +kernel), wi_RX9, wc_X9_book, by decide +kernel⟩, wn_X9_book, we_X9_book, TX9, 35, rfl⟩
theorem wn_X8_looked : Cond.instanceMethod yX8_looked ∈ fm_tb := fm_at 724 (by decide +kernel) (by decide +kernel)
theorem we_X8_looked : Cond.selects yX8_looked.cls yX8_looked yX8_looked ∈ fm_tb := fm_at 725 (by decide +kernel) (by decide +kernel)
theorem lm_L_134 : fm_lkV RL 134 8 mX8_looked 0 := ⟨⟨fm_at 723 (by decide +kernel) (by decide +kernel), wi_RX8, wc_X8_looked, by decide +kernel⟩, wn_X8_looked, we_X8_looked, TX8, 9, rfl⟩
theorem wn_X9_looked : Cond.instanceMethod yX9_looked ∈ fm_tb := fm_at 1196 (by decide +kernel) (by decide +kernel)
theorem we_X9_looked : Cond.selects yX9_looked.cls yX9_looked yX9_looked ∈ fm_tb := fm_at 1197 (by decide +kernel) (by decide +kernel)
theorem lm_L_137 : fm_lkV RL 137 9 mX9_looked 0 := ⟨⟨fm_at 1195 (by decide +kernel) (by decide +kernel), wi_RX9, wc_X9_looked, by decide +kernel⟩, wn_X9_looked, we_X9_looked, TX9, 35, rfl⟩
theorem wn_X8_judge : Cond.instanceMethod yX8_judge ∈ fm_tb := fm_at 732 (by decide +kernel) (by decide +kernel)
theorem we_X8_judge : Cond.selects yX8_judge.cls yX8_judge yX8_judge ∈ fm_tb := fm_at 733 (by decide +kernel) (by decide +kernel)
theorem lm_L_138 : fm_lkV RL 138 8 mX8_judge 2 := ⟨⟨fm_at 731 (by decide +kernel) (by decide +kernel), wi_RX8, wc_X8_judge, by decide +kernel⟩, wn_X8_judge, we_X8_judge, TX8, 9, rfl⟩
theorem wn_X9_judge : Cond.instanceMethod yX9_judge ∈ fm_tb := fm_at 1204 (by decide +kernel) (by decide +kernel)
theorem we_X9_judge : Cond.selects yX9_judge.cls yX9_judge yX9_judge ∈ fm_tb := fm_at 1205 (by decide +kernel) (by decide +kernel)
theorem lm_L_141 : fm_lkV RL 141 9 mX9_judge 2 := ⟨⟨fm_at 1203 (by decide +kernel) (by decide +kernel), wi_RX9, wc_X9_judge, by decide +kernel⟩, wn_X9_judge, we_X9_judge, TX9, 35, rfl⟩
theorem wn_X8_image : Cond.instanceMethod yX8_image ∈ fm_tb := fm_at 740 (by decide +kernel) (by decide +kernel)
theorem we_X8_image : Cond.selects yX8_image.cls yX8_image yX8_image ∈ fm_tb := fm_at 741 (by decide +kernel) (by decide +kernel)
theorem lm_L_142 : fm_lkV RL 142 8 mX8_image 0 := ⟨⟨fm_at 739 (by decide +kernel) (by decide +kernel), wi_RX8, wc_X8_image, by decide +kernel⟩, wn_X8_image, we_X8_image, TX8, 9, rfl⟩
theorem wn_X9_image : Cond.instanceMethod yX9_image ∈ fm_tb := fm_at 1211 (by decide +kernel) (by decide +kernel)
theorem we_X9_image : Cond.selects yX9_image.cls yX9_image yX9_image ∈ fm_tb := fm_at 1212 (by decide +kernel) (by decide +kernel)
theorem lm_L_145 : fm_lkV RL 145 9 mX9_image 0 := ⟨⟨fm_at 1210 (by decide +kernel) (by decide +kernel), wi_RX9, wc_X9_image, by decide +kernel⟩, wn_X9_image, we_X9_image, TX9, 35, rfl⟩
theorem wn_X8_undo : Cond.instanceMethod yX8_undo ∈ fm_tb := fm_at 757 (by decide +kernel) (by decide +kernel)
theorem we_X8_undo : Cond.selects yX8_undo.cls yX8_undo yX8_undo ∈ fm_tb := fm_at 758 (by decide +kernel) (by decide +kernel)
theorem lm_L_146 : fm_lkV RL 146 8 mX8_undo 0 := ⟨⟨fm_at 756 (by decide +kernel) (by decide +kernel), wi_RX8, wc_X8_undo, by decide +kernel⟩, wn_X8_undo, we_X8_undo, TX8, 9, rfl⟩
theorem wn_X9_undo : Cond.instanceMethod yX9_undo ∈ fm_tb := fm_at 1215 (by decide +kernel) (by decide +kernel)
theorem we_X9_undo : Cond.selects yX9_undo.cls yX9_undo yX9_undo ∈ fm_tb := fm_at 1216 (by decide +kernel) (by decide +kernel)
theorem lm_L_149 : fm_lkV RL 149 9 mX9_undo 0 := ⟨⟨fm_at 1214 (by decide +kernel) (by decide +kernel), wi_RX9, wc_X9_undo, by decide +kernel⟩, wn_X9_undo, we_X9_undo, TX9, 35, rfl⟩
theorem wn_X8_count : Cond.instanceMethod yX8_count ∈ fm_tb := fm_at 761 (by decide +kernel) (by decide +kernel)
theorem we_X8_count : Cond.selects yX8_count.cls yX8_count yX8_count ∈ fm_tb := fm_at 762 (by decide +kernel) (by decide +kernel)
theorem lm_L_150 : fm_lkV RL 150 8 mX8_count 1 := ⟨⟨fm_at 760 (by decide +kernel) (by decide +kernel), wi_RX8, wc_X8_count, by decide +kernel⟩, wn_X8_count, we_X8_count, TX8, 9, rfl⟩
theorem wn_X9_count : Cond.instanceMethod yX9_count ∈ fm_tb := fm_at 1219 (by decide +kernel) (by decide +kernel)
theorem we_X9_count : Cond.selects yX9_count.cls yX9_count yX9_count ∈ fm_tb := fm_at 1220 (by decide +kernel) (by decide +kernel)
theorem lm_L_153 : fm_lkV RL 153 9 mX9_count 1 := ⟨⟨fm_at 1218 (by decide +kernel) (by decide +kernel), wi_RX9, wc_X9_count, by decide +kernel⟩, wn_X9_count, we_X9_count, TX9, 35, rfl⟩
theorem wn_X8_tape : Cond.instanceMethod yX8_tape ∈ fm_tb := fm_at 765 (by decide +kernel) (by decide +kernel)
theorem we_X8_tape : Cond.selects yX8_tape.cls yX8_tape yX8_tape ∈ fm_tb := fm_at 766 (by decide +kernel) (by decide +kernel)
theorem lm_L_154 : fm_lkV RL 154 8 mX8_tape 3 := ⟨⟨fm_at 764 (by decide +kernel) (by decide +kernel), wi_RX8, wc_X8_tape, by decide +kernel⟩, wn_X8_tape, we_X8_tape, TX8, 9, rfl⟩
theorem wn_X9_tape : Cond.instanceMethod yX9_tape ∈ fm_tb := fm_at 1223 (by decide +kernel) (by decide +kernel)
theorem we_X9_tape : Cond.selects yX9_tape.cls yX9_tape yX9_tape ∈ fm_tb := fm_at 1224 (by decide +kernel) (by decide +kernel)
theorem lm_L_157 : fm_lkV RL 157 9 mX9_tape 3 := ⟨⟨fm_at 1222 (by decide +kernel) (by decide +kernel), wi_RX9, wc_X9_tape, by decide +kernel⟩, wn_X9_tape, we_X9_tape, TX9, 35, rfl⟩
theorem wn_X8_item : Cond.instanceMethod yX8_item ∈ fm_tb := fm_at 773 (by decide +kernel) (by decide +kernel)
theorem we_X8_item : Cond.selects yX8_item.cls yX8_item yX8_item ∈ fm_tb := fm_at 774 (by decide +kernel) (by decide +kernel)
theorem lm_L_160 : fm_lkV RL 160 8 mX8_item 3 := ⟨⟨fm_at 772 (by decide +kernel) (by decide +kernel), wi_RX8, wc_X8_item, by decide +kernel⟩, wn_X8_item, we_X8_item, TX8, 9, rfl⟩
theorem wn_X9_item : Cond.instanceMethod yX9_item ∈ fm_tb := fm_at 1227 (by decide +kernel) (by decide +kernel)
theorem we_X9_item : Cond.selects yX9_item.cls yX9_item yX9_item ∈ fm_tb := fm_at 1228 (by decide +kernel) (by decide +kernel)
theorem lm_L_164 : fm_lkV RL 164 9 mX9_item 3 := ⟨⟨fm_at 1226 (by decide +kernel) (by decide +kernel), wi_RX9, wc_X9_item, by decide +kernel⟩, wn_X9_item, we_X9_item, TX9, 35, rfl⟩
theorem wn_X8_peek : Cond.instanceMethod yX8_peek ∈ fm_tb := fm_at 785 (by decide +kernel) (by decide +kernel)
theorem we_X8_peek : Cond.selects yX8_peek.cls yX8_peek yX8_peek ∈ fm_tb := fm_at 786 (by decide +kernel) (by decide +kernel)
theorem lm_L_165 : fm_lkV RL 165 8 mX8_peek 2 := ⟨⟨fm_at 784 (by decide +kernel) (by decide +kernel), wi_RX8, wc_X8_peek, by decide +kernel⟩, wn_X8_peek, we_X8_peek, TX8, 9, rfl⟩
theorem wn_X9_peek : Cond.instanceMethod yX9_peek ∈ fm_tb := fm_at 1234 (by decide +kernel) (by decide +kernel)
theorem we_X9_peek : Cond.selects yX9_peek.cls yX9_peek yX9_peek ∈ fm_tb := fm_at 1235 (by decide +kernel) (by decide +kernel)
theorem lm_L_168 : fm_lkV RL 168 9 mX9_peek 2 := ⟨⟨fm_at 1233 (by decide +kernel) (by decide +kernel), wi_RX9, wc_X9_peek, by decide +kernel⟩, wn_X9_peek, we_X9_peek, TX9, 35, rfl⟩
theorem wn_X8_shift : Cond.instanceMethod yX8_shift ∈ fm_tb := fm_at 789 (by decide +kernel) (by decide +kernel)
theorem we_X8_shift : Cond.selects yX8_shift.cls yX8_shift yX8_shift ∈ fm_tb := fm_at 790 (by decide +kernel) (by decide +kernel)
theorem lm_L_169 : fm_lkV RL 169 8 mX8_shift 5 := ⟨⟨fm_at 788 (by decide +kernel) (by decide +kernel), wi_RX8, wc_X8_shift, by decide +kernel⟩, wn_X8_shift, we_X8_shift, TX8, 9, rfl⟩
theorem wn_X9_shift : Cond.instanceMethod yX9_shift ∈ fm_tb := fm_at 1238 (by decide +kernel) (by decide +kernel)
theorem we_X9_shift : Cond.selects yX9_shift.cls yX9_shift yX9_shift ∈ fm_tb := fm_at 1239 (by decide +kernel) (by decide +kernel)
theorem lm_L_173 : fm_lkV RL 173 9 mX9_shift 5 := ⟨⟨fm_at 1237 (by decide +kernel) (by decide +kernel), wi_RX9, wc_X9_shift, by decide +kernel⟩, wn_X9_shift, we_X9_shift, TX9, 35, rfl⟩
theorem wt_X9_within : Cond.static yX9_within ∈ fm_tb := fm_at 918 (by decide +kernel) (by decide +kernel)
theorem lm_X9_93 : fm_lkS RX9 93 mX9_within 3 := ⟨⟨fm_at 917 (by decide +kernel) (by decide +kernel), wi_RX9, wc_X9_within, by decide +kernel⟩, wt_X9_within⟩
theorem wt_X9_isOdds : Cond.static yX9_isOdds ∈ fm_tb := fm_at 915 (by decide +kernel) (by decide +kernel)
theorem lm_X9_100 : fm_lkS RX9 100 mX9_isOdds 1 := ⟨⟨fm_at 914 (by decide +kernel) (by decide +kernel), wi_RX9, wc_X9_isOdds, by decide +kernel⟩, wt_X9_isOdds⟩
theorem wt_X9_isKind : Cond.static yX9_isKind ∈ fm_tb := fm_at 925 (by decide +kernel) (by decide +kernel)
theorem lm_X9_104 : fm_lkS RX9 104 mX9_isKind 2 := ⟨⟨fm_at 924 (by decide +kernel) (by decide +kernel), wi_RX9, wc_X9_isKind, by decide +kernel⟩, wt_X9_isKind⟩
theorem wn_X9_isGate : Cond.instanceMethod yX9_isGate ∈ fm_tb := fm_at 933 (by decide +kernel) (by decide +kernel)
theorem we_X9_isGate : Cond.selects yX9_isGate.cls yX9_isGate yX9_isGate ∈ fm_tb := fm_at 21 (by decide +kernel) (by decide +kernel)
theorem lm_X9_108 : fm_lkV RX9 108 9 mX9_isGate 1 := ⟨⟨fm_at 931 (by decide +kernel) (by decide +kernel), wi_RX9, wc_X9_isGate, by decide +kernel⟩, wn_X9_isGate, we_X9_isGate, TX9, 35, rfl⟩
theorem wn_X9_isPart : Cond.instanceMethod yX9_isPart ∈ fm_tb := fm_at 941 (by decide +kernel) (by decide +kernel)
theorem we_X9_isPart : Cond.selects yX9_isPart.cls yX9_isPart yX9_isPart ∈ fm_tb := fm_at 22 (by decide +kernel) (by decide +kernel)
theorem lm_X9_111 : fm_lkV RX9 111 9 mX9_isPart 1 := ⟨⟨fm_at 939 (by decide +kernel) (by decide +kernel), wi_RX9, wc_X9_isPart, by decide +kernel⟩, wn_X9_isPart, we_X9_isPart, TX9, 35, rfl⟩
theorem wn_X9_topmost : Cond.instanceMethod yX9_topmost ∈ fm_tb := fm_at 953 (by decide +kernel) (by decide +kernel)
theorem we_X9_topmost : Cond.selects yX9_topmost.cls yX9_topmost yX9_topmost ∈ fm_tb := fm_at 23 (by decide +kernel) (by decide +kernel)
theorem lm_X9_114 : fm_lkV RX9 114 9 mX9_topmost 0 := ⟨⟨fm_at 951 (by decide +kernel) (by decide +kernel), wi_RX9, wc_X9_topmost, by decide +kernel⟩, wn_X9_topmost, we_X9_topmost, TX9, 35, rfl⟩
theorem wn_X9_isSet : Cond.instanceMethod yX9_isSet ∈ fm_tb := fm_at 961 (by decide +kernel) (by decide +kernel)
theorem we_X9_isSet : Cond.selects yX9_isSet.cls yX9_isSet yX9_isSet ∈ fm_tb := fm_at 24 (by decide +kernel) (by decide +kernel)
theorem lm_X9_118 : fm_lkV RX9 118 9 mX9_isSet 1 := ⟨⟨fm_at 959 (by decide +kernel) (by decide +kernel), wi_RX9, wc_X9_isSet, by decide +kernel⟩, wn_X9_isSet, we_X9_isSet, TX9, 35, rfl⟩
theorem wn_X9_placeOf : Cond.instanceMethod yX9_placeOf ∈ fm_tb := fm_at 973 (by decide +kernel) (by decide +kernel)
theorem we_X9_placeOf : Cond.selects yX9_placeOf.cls yX9_placeOf yX9_placeOf ∈ fm_tb := fm_at 25 (by decide +kernel) (by decide +kernel)
theorem lm_X9_124 : fm_lkV RX9 124 9 mX9_placeOf 1 := ⟨⟨fm_at 971 (by decide +kernel) (by decide +kernel), wi_RX9, wc_X9_placeOf, by decide +kernel⟩, wn_X9_placeOf, we_X9_placeOf, TX9, 35, rfl⟩
theorem wn_X9_ofGate : Cond.instanceMethod yX9_ofGate ∈ fm_tb := fm_at 977 (by decide +kernel) (by decide +kernel)
theorem we_X9_ofGate : Cond.selects yX9_ofGate.cls yX9_ofGate yX9_ofGate ∈ fm_tb := fm_at 26 (by decide +kernel) (by decide +kernel)
theorem lm_X9_128 : fm_lkV RX9 128 9 mX9_ofGate 2 := ⟨⟨fm_at 975 (by decide +kernel) (by decide +kernel), wi_RX9, wc_X9_ofGate, by decide +kernel⟩, wn_X9_ofGate, we_X9_ofGate, TX9, 35, rfl⟩
theorem wn_X9_signAt : Cond.instanceMethod yX9_signAt ∈ fm_tb := fm_at 1005 (by decide +kernel) (by decide +kernel)
theorem we_X9_signAt : Cond.selects yX9_signAt.cls yX9_signAt yX9_signAt ∈ fm_tb := fm_at 31 (by decide +kernel) (by decide +kernel)
theorem lm_X9_135 : fm_lkV RX9 135 9 mX9_signAt 1 := ⟨⟨fm_at 1003 (by decide +kernel) (by decide +kernel), wi_RX9, wc_X9_signAt, by decide +kernel⟩, wn_X9_signAt, we_X9_signAt, TX9, 35, rfl⟩
theorem wn_X9_isDigit : Cond.instanceMethod yX9_isDigit ∈ fm_tb := fm_at 1001 (by decide +kernel) (by decide +kernel)
theorem we_X9_isDigit : Cond.selects yX9_isDigit.cls yX9_isDigit yX9_isDigit ∈ fm_tb := fm_at 30 (by decide +kernel) (by decide +kernel)
theorem lm_X9_138 : fm_lkV RX9 138 9 mX9_isDigit 1 := ⟨⟨fm_at 999 (by decide +kernel) (by decide +kernel), wi_RX9, wc_X9_isDigit, by decide +kernel⟩, wn_X9_isDigit, we_X9_isDigit, TX9, 35, rfl⟩
theorem wn_X9_behindOdds : Cond.instanceMethod yX9_behindOdds ∈ fm_tb := fm_at 997 (by decide +kernel) (by decide +kernel)
theorem we_X9_behindOdds : Cond.selects yX9_behindOdds.cls yX9_behindOdds yX9_behindOdds ∈ fm_tb := fm_at 29 (by decide +kernel) (by decide +kernel)
theorem lm_X9_141 : fm_lkV RX9 141 9 mX9_behindOdds 1 := ⟨⟨fm_at 995 (by decide +kernel) (by decide +kernel), wi_RX9, wc_X9_behindOdds, by decide +kernel⟩, wn_X9_behindOdds, we_X9_behindOdds, TX9, 35, rfl⟩
theorem wn_X9_behindParts : Cond.instanceMethod yX9_behindParts ∈ fm_tb := fm_at 1009 (by decide +kernel) (by decide +kernel)
theorem we_X9_behindParts : Cond.selects yX9_behindParts.cls yX9_behindParts yX9_behindParts ∈ fm_tb := fm_at 32 (by decide +kernel) (by decide +kernel)
theorem lm_X9_144 : fm_lkV RX9 144 9 mX9_behindParts 1 := ⟨⟨fm_at 1007 (by decide +kernel) (by decide +kernel), wi_RX9, wc_X9_behindParts, by decide +kernel⟩, wn_X9_behindParts, we_X9_behindParts, TX9, 35, rfl⟩
theorem wn_X9_behind : Cond.instanceMethod yX9_behind ∈ fm_tb := fm_at 993 (by decide +kernel) (by decide +kernel)
theorem we_X9_behind : Cond.selects yX9_behind.cls yX9_behind yX9_behind ∈ fm_tb := fm_at 28 (by decide +kernel) (by decide +kernel)
theorem lm_X9_147 : fm_lkV RX9 147 9 mX9_behind 1 := ⟨⟨fm_at 991 (by decide +kernel) (by decide +kernel), wi_RX9, wc_X9_behind, by decide +kernel⟩, wn_X9_behind, we_X9_behind, TX9, 35, rfl⟩
theorem wn_X9_number : Cond.instanceMethod yX9_number ∈ fm_tb := fm_at 1017 (by decide +kernel) (by decide +kernel)
theorem we_X9_number : Cond.selects yX9_number.cls yX9_number yX9_number ∈ fm_tb := fm_at 34 (by decide +kernel) (by decide +kernel)
theorem lm_X9_150 : fm_lkV RX9 150 9 mX9_number 2 := ⟨⟨fm_at 1015 (by decide +kernel) (by decide +kernel), wi_RX9, wc_X9_number, by decide +kernel⟩, wn_X9_number, we_X9_number, TX9, 35, rfl⟩
theorem lm_X9_153 : fm_lkV RX9 153 9 mX9_part 1 := ⟨⟨fm_at 1019 (by decide +kernel) (by decide +kernel), wi_RX9, wc_X9_part, by decide +kernel⟩, wn_X9_part, we_X9_part, TX9, 35, rfl⟩
theorem lm_X9_156 : fm_lkV RX9 156 9 mX9_gate 2 := ⟨⟨fm_at 1020 (by decide +kernel) (by decide +kernel), wi_RX9, wc_X9_gate, by decide +kernel⟩, wn_X9_gate, we_X9_gate, TX9, 35, rfl⟩
theorem lm_X9_159 : fm_lkV RX9 159 9 mX9_join 3 := ⟨⟨fm_at 1021 (by decide +kernel) (by decide +kernel), wi_RX9, wc_X9_join, by decide +kernel⟩, wn_X9_join, we_X9_join, TX9, 35, rfl⟩
theorem lm_X9_163 : fm_lkV RX9 163 9 mX9_cause 2 := ⟨⟨fm_at 1022 (by decide +kernel) (by decide +kernel), wi_RX9, wc_X9_cause, by decide +kernel⟩, wn_X9_cause, we_X9_cause, TX9, 35, rfl⟩
theorem wn_X9_fault : Cond.instanceMethod yX9_fault ∈ fm_tb := fm_at 989 (by decide +kernel) (by decide +kernel)
theorem we_X9_fault : Cond.selects yX9_fault.cls yX9_fault yX9_fault ∈ fm_tb := fm_at 27 (by decide +kernel) (by decide +kernel)
theorem lm_X9_166 : fm_lkV RX9 166 9 mX9_fault 0 := ⟨⟨fm_at 987 (by decide +kernel) (by decide +kernel), wi_RX9, wc_X9_fault, by decide +kernel⟩, wn_X9_fault, we_X9_fault, TX9, 35, rfl⟩
theorem wn_X9_does : Cond.instanceMethod yX9_does ∈ fm_tb := fm_at 1013 (by decide +kernel) (by decide +kernel)
theorem we_X9_does : Cond.selects yX9_does.cls yX9_does yX9_does ∈ fm_tb := fm_at 33 (by decide +kernel) (by decide +kernel)
theorem lm_X9_169 : fm_lkV RX9 169 9 mX9_does 2 := ⟨⟨fm_at 1011 (by decide +kernel) (by decide +kernel), wi_RX9, wc_X9_does, by decide +kernel⟩, wn_X9_does, we_X9_does, TX9, 35, rfl⟩
theorem wn_X9_fallsBy : Cond.instanceMethod yX9_fallsBy ∈ fm_tb := fm_at 1033 (by decide +kernel) (by decide +kernel)
theorem we_X9_fallsBy : Cond.selects yX9_fallsBy.cls yX9_fallsBy yX9_fallsBy ∈ fm_tb := fm_at 36 (by decide +kernel) (by decide +kernel)
theorem lm_X9_172 : fm_lkV RX9 172 9 mX9_fallsBy 2 := ⟨⟨fm_at 1031 (by decide +kernel) (by decide +kernel), wi_RX9, wc_X9_fallsBy, by decide +kernel⟩, wn_X9_fallsBy, we_X9_fallsBy, TX9, 35, rfl⟩
theorem wn_X9_fallsAt : Cond.instanceMethod yX9_fallsAt ∈ fm_tb := fm_at 1029 (by decide +kernel) (by decide +kernel)
theorem we_X9_fallsAt : Cond.selects yX9_fallsAt.cls yX9_fallsAt yX9_fallsAt ∈ fm_tb := fm_at 35 (by decide +kernel) (by decide +kernel)
theorem lm_X9_175 : fm_lkV RX9 175 9 mX9_fallsAt 2 := ⟨⟨fm_at 1027 (by decide +kernel) (by decide +kernel), wi_RX9, wc_X9_fallsAt, by decide +kernel⟩, wn_X9_fallsAt, we_X9_fallsAt, TX9, 35, rfl⟩
theorem wn_X9_goes : Cond.instanceMethod yX9_goes ∈ fm_tb := fm_at 1041 (by decide +kernel) (by decide +kernel)
theorem we_X9_goes : Cond.selects yX9_goes.cls yX9_goes yX9_goes ∈ fm_tb := fm_at 37 (by decide +kernel) (by decide +kernel)
theorem lm_X9_178 : fm_lkV RX9 178 9 mX9_goes 2 := ⟨⟨fm_at 1039 (by decide +kernel) (by decide +kernel), wi_RX9, wc_X9_goes, by decide +kernel⟩, wn_X9_goes, we_X9_goes, TX9, 35, rfl⟩
theorem wn_X9_all : Cond.instanceMethod yX9_all ∈ fm_tb := fm_at 1065 (by decide +kernel) (by decide +kernel)
theorem we_X9_all : Cond.selects yX9_all.cls yX9_all yX9_all ∈ fm_tb := fm_at 41 (by decide +kernel) (by decide +kernel)
theorem lm_X9_184 : fm_lkV RX9 184 9 mX9_all 0 := ⟨⟨fm_at 1063 (by decide +kernel) (by decide +kernel), wi_RX9, wc_X9_all, by decide +kernel⟩, wn_X9_all, we_X9_all, TX9, 35, rfl⟩
theorem wn_X9_were : Cond.instanceMethod yX9_were ∈ fm_tb := fm_at 1070 (by decide +kernel) (by decide +kernel)
theorem we_X9_were : Cond.selects yX9_were.cls yX9_were yX9_were ∈ fm_tb := fm_at 42 (by decide +kernel) (by decide +kernel)
theorem lm_X9_191 : fm_lkV RX9 191 9 mX9_were 3 := ⟨⟨fm_at 1068 (by decide +kernel) (by decide +kernel), wi_RX9, wc_X9_were, by decide +kernel⟩, wn_X9_were, we_X9_were, TX9, 35, rfl⟩
theorem wn_X9_nodeFor : Cond.instanceMethod yX9_nodeFor ∈ fm_tb := fm_at 1061 (by decide +kernel) (by decide +kernel)
theorem we_X9_nodeFor : Cond.selects yX9_nodeFor.cls yX9_nodeFor yX9_nodeFor ∈ fm_tb := fm_at 40 (by decide +kernel) (by decide +kernel)
theorem lm_X9_195 : fm_lkV RX9 195 9 mX9_nodeFor 1 := ⟨⟨fm_at 1059 (by decide +kernel) (by decide +kernel), wi_RX9, wc_X9_nodeFor, by decide +kernel⟩, wn_X9_nodeFor, we_X9_nodeFor, TX9, 35, rfl⟩
theorem wn_X9_isDown : Cond.instanceMethod yX9_isDown ∈ fm_tb := fm_at 1057 (by decide +kernel) (by decide +kernel)
theorem we_X9_isDown : Cond.selects yX9_isDown.cls yX9_isDown yX9_isDown ∈ fm_tb := fm_at 39 (by decide +kernel) (by decide +kernel)
theorem lm_X9_199 : fm_lkV RX9 199 9 mX9_isDown 1 := ⟨⟨fm_at 1055 (by decide +kernel) (by decide +kernel), wi_RX9, wc_X9_isDown, by decide +kernel⟩, wn_X9_isDown, we_X9_isDown, TX9, 35, rfl⟩
theorem wn_X9_draws : Cond.instanceMethod yX9_draws ∈ fm_tb := fm_at 1053 (by decide +kernel) (by decide +kernel)
theorem we_X9_draws : Cond.selects yX9_draws.cls yX9_draws yX9_draws ∈ fm_tb := fm_at 38 (by decide +kernel) (by decide +kernel)
theorem lm_X9_202 : fm_lkV RX9 202 9 mX9_draws 0 := ⟨⟨fm_at 1051 (by decide +kernel) (by decide +kernel), wi_RX9, wc_X9_draws, by decide +kernel⟩, wn_X9_draws, we_X9_draws, TX9, 35, rfl⟩
theorem wn_X9_isOne : Cond.instanceMethod yX9_isOne ∈ fm_tb := fm_at 1097 (by decide +kernel) (by decide +kernel)
theorem we_X9_isOne : Cond.selects yX9_isOne.cls yX9_isOne yX9_isOne ∈ fm_tb := fm_at 46 (by decide +kernel) (by decide +kernel)
theorem lm_X9_205 : fm_lkV RX9 205 9 mX9_isOne 2 := ⟨⟨fm_at 1095 (by decide +kernel) (by decide +kernel), wi_RX9, wc_X9_isOne, by decide +kernel⟩, wn_X9_isOne, we_X9_isOne, TX9, 35, rfl⟩
theorem wt_X9_many : Cond.static yX9_many ∈ fm_tb := fm_at 1089 (by decide +kernel) (by decide +kernel)
theorem lm_X9_212 : fm_lkS RX9 212 mX9_many 1 := ⟨⟨fm_at 1088 (by decide +kernel) (by decide +kernel), wi_RX9, wc_X9_many, by decide +kernel⟩, wt_X9_many⟩
theorem wn_X9_isLeast : Cond.instanceMethod yX9_isLeast ∈ fm_tb := fm_at 1093 (by decide +kernel) (by decide +kernel)
theorem we_X9_isLeast : Cond.selects yX9_isLeast.cls yX9_isLeast yX9_isLeast ∈ fm_tb := fm_at 45 (by decide +kernel) (by decide +kernel)
theorem lm_X9_215 : fm_lkV RX9 215 9 mX9_isLeast 2 := ⟨⟨fm_at 1091 (by decide +kernel) (by decide +kernel), wi_RX9, wc_X9_isLeast, by decide +kernel⟩, wn_X9_isLeast, we_X9_isLeast, TX9, 35, rfl⟩
theorem wn_X9_sets : Cond.instanceMethod yX9_sets ∈ fm_tb := fm_at 1086 (by decide +kernel) (by decide +kernel)
theorem we_X9_sets : Cond.selects yX9_sets.cls yX9_sets yX9_sets ∈ fm_tb := fm_at 44 (by decide +kernel) (by decide +kernel)
theorem lm_X9_218 : fm_lkV RX9 218 9 mX9_sets 1 := ⟨⟨fm_at 1084 (by decide +kernel) (by decide +kernel), wi_RX9, wc_X9_sets, by decide +kernel⟩, wn_X9_sets, we_X9_sets, TX9, 35, rfl⟩
theorem wn_X9_setAt : Cond.instanceMethod yX9_setAt ∈ fm_tb := fm_at 1082 (by decide +kernel) (by decide +kernel)
theorem we_X9_setAt : Cond.selects yX9_setAt.cls yX9_setAt yX9_setAt ∈ fm_tb := fm_at 43 (by decide +kernel) (by decide +kernel)
theorem lm_X9_221 : fm_lkV RX9 221 9 mX9_setAt 2 := ⟨⟨fm_at 1080 (by decide +kernel) (by decide +kernel), wi_RX9, wc_X9_setAt, by decide +kernel⟩, wn_X9_setAt, we_X9_setAt, TX9, 35, rfl⟩
theorem wn_X9_together : Cond.instanceMethod yX9_together ∈ fm_tb := fm_at 1114 (by decide +kernel) (by decide +kernel)
theorem we_X9_together : Cond.selects yX9_together.cls yX9_together yX9_together ∈ fm_tb := fm_at 48 (by decide +kernel) (by decide +kernel)
theorem lm_X9_225 : fm_lkV RX9 225 9 mX9_together 1 := ⟨⟨fm_at 1112 (by decide +kernel) (by decide +kernel), wi_RX9, wc_X9_together, by decide +kernel⟩, wn_X9_together, we_X9_together, TX9, 35, rfl⟩
theorem wn_X9_broken : Cond.instanceMethod yX9_broken ∈ fm_tb := fm_at 1118 (by decide +kernel) (by decide +kernel)
theorem we_X9_broken : Cond.selects yX9_broken.cls yX9_broken yX9_broken ∈ fm_tb := fm_at 49 (by decide +kernel) (by decide +kernel)
theorem lm_X9_229 : fm_lkV RX9 229 9 mX9_broken 1 := ⟨⟨fm_at 1116 (by decide +kernel) (by decide +kernel), wi_RX9, wc_X9_broken, by decide +kernel⟩, wn_X9_broken, we_X9_broken, TX9, 35, rfl⟩
theorem wn_X9_alone : Cond.instanceMethod yX9_alone ∈ fm_tb := fm_at 1122 (by decide +kernel) (by decide +kernel)
theorem we_X9_alone : Cond.selects yX9_alone.cls yX9_alone yX9_alone ∈ fm_tb := fm_at 50 (by decide +kernel) (by decide +kernel)
theorem lm_X9_232 : fm_lkV RX9 232 9 mX9_alone 1 := ⟨⟨fm_at 1120 (by decide +kernel) (by decide +kernel), wi_RX9, wc_X9_alone, by decide +kernel⟩, wn_X9_alone, we_X9_alone, TX9, 35, rfl⟩
theorem wt_X9_common : Cond.static yX9_common ∈ fm_tb := fm_at 1133 (by decide +kernel) (by decide +kernel)
theorem lm_X9_237 : fm_lkS RX9 237 mX9_common 2 := ⟨⟨fm_at 1132 (by decide +kernel) (by decide +kernel), wi_RX9, wc_X9_common, by decide +kernel⟩, wt_X9_common⟩
theorem wn_X9_chance : Cond.instanceMethod yX9_chance ∈ fm_tb := fm_at 1110 (by decide +kernel) (by decide +kernel)
theorem we_X9_chance : Cond.selects yX9_chance.cls yX9_chance yX9_chance ∈ fm_tb := fm_at 47 (by decide +kernel) (by decide +kernel)
theorem lm_X9_243 : fm_lkV RX9 243 9 mX9_chance 0 := ⟨⟨fm_at 1108 (by decide +kernel) (by decide +kernel), wi_RX9, wc_X9_chance, by decide +kernel⟩, wn_X9_chance, we_X9_chance, TX9, 35, rfl⟩
theorem wn_X9_whole : Cond.instanceMethod yX9_whole ∈ fm_tb := fm_at 1126 (by decide +kernel) (by decide +kernel)
theorem we_X9_whole : Cond.selects yX9_whole.cls yX9_whole yX9_whole ∈ fm_tb := fm_at 51 (by decide +kernel) (by decide +kernel)
theorem lm_X9_246 : fm_lkV RX9 246 9 mX9_whole 0 := ⟨⟨fm_at 1124 (by decide +kernel) (by decide +kernel), wi_RX9, wc_X9_whole, by decide +kernel⟩, wn_X9_whole, we_X9_whole, TX9, 35, rfl⟩
theorem wt_X9_line : Cond.static yX9_line ∈ fm_tb := fm_at 1130 (by decide +kernel) (by decide +kernel)
theorem lm_X9_249 : fm_lkS RX9 249 mX9_line 3 := ⟨⟨fm_at 1129 (by decide +kernel) (by decide +kernel), wi_RX9, wc_X9_line, by decide +kernel⟩, wt_X9_line⟩
theorem wn_X9_weight : Cond.instanceMethod yX9_weight ∈ fm_tb := fm_at 1145 (by decide +kernel) (by decide +kernel)
theorem we_X9_weight : Cond.selects yX9_weight.cls yX9_weight yX9_weight ∈ fm_tb := fm_at 52 (by decide +kernel) (by decide +kernel)
theorem lm_X9_253 : fm_lkV RX9 253 9 mX9_weight 1 := ⟨⟨fm_at 1143 (by decide +kernel) (by decide +kernel), wi_RX9, wc_X9_weight, by decide +kernel⟩, wn_X9_weight, we_X9_weight, TX9, 35, rfl⟩
theorem wn_X9_drawn : Cond.instanceMethod yX9_drawn ∈ fm_tb := fm_at 1153 (by decide +kernel) (by decide +kernel)
theorem we_X9_drawn : Cond.selects yX9_drawn.cls yX9_drawn yX9_drawn ∈ fm_tb := fm_at 53 (by decide +kernel) (by decide +kernel)
theorem lm_X9_256 : fm_lkV RX9 256 9 mX9_drawn 0 := ⟨⟨fm_at 1151 (by decide +kernel) (by decide +kernel), wi_RX9, wc_X9_drawn, by decide +kernel⟩, wn_X9_drawn, we_X9_drawn, TX9, 35, rfl⟩
theorem wn_X9_many_ : Cond.instanceMethod yX9_many_ ∈ fm_tb := fm_at 1157 (by decide +kernel) (by decide +kernel)
theorem we_X9_many_ : Cond.selects yX9_many_.cls yX9_many_ yX9_many_ ∈ fm_tb := fm_at 54 (by decide +kernel) (by decide +kernel)
theorem lm_X9_259 : fm_lkV RX9 259 9 mX9_many_ 1 := ⟨⟨fm_at 1155 (by decide +kernel) (by decide +kernel), wi_RX9, wc_X9_many_, by decide +kernel⟩, wn_X9_many_, we_X9_many_, TX9, 35, rfl⟩
theorem wn_X9_most : Cond.instanceMethod yX9_most ∈ fm_tb := fm_at 1161 (by decide +kernel) (by decide +kernel)
theorem we_X9_most : Cond.selects yX9_most.cls yX9_most yX9_most ∈ fm_tb := fm_at 55 (by decide +kernel) (by decide +kernel)
theorem lm_X9_262 : fm_lkV RX9 262 9 mX9_most 0 := ⟨⟨fm_at 1159 (by decide +kernel) (by decide +kernel), wi_RX9, wc_X9_most, by decide +kernel⟩, wn_X9_most, we_X9_most, TX9, 35, rfl⟩
theorem wn_X9_ever : Cond.instanceMethod yX9_ever ∈ fm_tb := fm_at 1165 (by decide +kernel) (by decide +kernel)
theorem we_X9_ever : Cond.selects yX9_ever.cls yX9_ever yX9_ever ∈ fm_tb := fm_at 56 (by decide +kernel) (by decide +kernel)
theorem lm_X9_265 : fm_lkV RX9 265 9 mX9_ever 0 := ⟨⟨fm_at 1163 (by decide +kernel) (by decide +kernel), wi_RX9, wc_X9_ever, by decide +kernel⟩, wn_X9_ever, we_X9_ever, TX9, 35, rfl⟩
theorem wn_X9_isAllSo : Cond.instanceMethod yX9_isAllSo ∈ fm_tb := fm_at 1177 (by decide +kernel) (by decide +kernel)
theorem we_X9_isAllSo : Cond.selects yX9_isAllSo.cls yX9_isAllSo yX9_isAllSo ∈ fm_tb := fm_at 57 (by decide +kernel) (by decide +kernel)
theorem lm_X9_271 : fm_lkV RX9 271 9 mX9_isAllSo 0 := ⟨⟨fm_at 1175 (by decide +kernel) (by decide +kernel), wi_RX9, wc_X9_isAllSo, by decide +kernel⟩, wn_X9_isAllSo, we_X9_isAllSo, TX9, 35, rfl⟩
theorem wn_X9_isTold : Cond.instanceMethod yX9_isTold ∈ fm_tb := fm_at 1201 (by decide +kernel) (by decide +kernel)
theorem we_X9_isTold : Cond.selects yX9_isTold.cls yX9_isTold yX9_isTold ∈ fm_tb := fm_at 58 (by decide +kernel) (by decide +kernel)
theorem lm_X9_281 : fm_lkV RX9 281 9 mX9_isTold 1 := ⟨⟨fm_at 1199 (by decide +kernel) (by decide +kernel), wi_RX9, wc_X9_isTold, by decide +kernel⟩, wn_X9_isTold, we_X9_isTold, TX9, 35, rfl⟩
theorem wt_X9_isTape : Cond.static yX9_isTape ∈ fm_tb := fm_at 1208 (by decide +kernel) (by decide +kernel)
theorem lm_X9_284 : fm_lkS RX9 284 mX9_isTape 1 := ⟨⟨fm_at 1207 (by decide +kernel) (by decide +kernel), wi_RX9, wc_X9_isTape, by decide +kernel⟩, wt_X9_isTape⟩
theorem wt_X9_bits : Cond.static yX9_bits ∈ fm_tb := fm_at 1231 (by decide +kernel) (by decide +kernel)
theorem lm_X9_291 : fm_lkS RX9 291 mX9_bits 2 := ⟨⟨fm_at 1230 (by decide +kernel) (by decide +kernel), wi_RX9, wc_X9_bits, by decide +kernel⟩, wt_X9_bits⟩
theorem ln_says : Cond.initialized mX8_says.1.cls ∈ fm_tb ∧ Cond.code mX8_says.1 mX8_says.2.1 mX8_says.2.2.1 mX8_says.2.2.2 ∈ fm_tb ∧ Cond.static mX8_says.1 ∈ fm_tb ∧ (mX8_says.1.cls ≠ "java/lang/invoke/MethodHandle" ∧ mX8_says.1.cls ≠ "java/lang/invoke/VarHandle" ∧ (parseMethodDescriptor mX8_says.1.desc).map (fun d => d.parameters.length) = some 2) := ⟨wi_RX8, wc_X8_says, wt_X8_says, by decide +kernel⟩
theorem lc_X3_85 : Cond.constantLong RX3 85 (-1) ∈ fm_tb := fm_at 494 (by decide +kernel) (by decide +kernel)
theorem lc_X1_35 : Cond.constantLong RX1 35 (-1) ∈ fm_tb := fm_at 545 (by decide +kernel) (by decide +kernel)
theorem lc_X0_52 : Cond.constantLong RX0 52 (-1) ∈ fm_tb := fm_at 612 (by decide +kernel) (by decide +kernel)
theorem lc_X0_24 : Cond.constantLong RX0 24 (100) ∈ fm_tb := fm_at 625 (by decide +kernel) (by decide +kernel)
theorem lc_X8_237 : Cond.constantLong RX8 237 (-1) ∈ fm_tb := fm_at 634 (by decide +kernel) (by decide +kernel)
theorem lc_X8_248 : Cond.constantLong RX8 248 (-9223372036854775808) ∈ fm_tb := fm_at 658 (by decide +kernel) (by decide +kernel)
theorem lc_X9_182 : Cond.constantLong RX9 182 (-1) ∈ fm_tb := fm_at 1067 (by decide +kernel) (by decide +kernel)
theorem lc_X9_241 : Cond.constantLong RX9 241 (-9223372036854775808) ∈ fm_tb := fm_at 1107 (by decide +kernel) (by decide +kernel)
theorem lc_X9_235 : Cond.constantLong RX9 235 (100) ∈ fm_tb := fm_at 1128 (by decide +kernel) (by decide +kernel)
theorem lc_L_158 : Cond.constantLong RL 158 (4294967295) ∈ fm_tb := fm_at 1241 (by decide +kernel) (by decide +kernel)
theorem lc_J6_265 : Cond.constant RJ6 265 (1431655765) ∈ fm_tb := fm_at 590 (by decide +kernel) (by decide +kernel)
theorem lc_J6_266 : Cond.constant RJ6 266 (858993459) ∈ fm_tb := fm_at 591 (by decide +kernel) (by decide +kernel)
theorem lc_J6_267 : Cond.constant RJ6 267 (252645135) ∈ fm_tb := fm_at 592 (by decide +kernel) (by decide +kernel)
theorem la_X3_93 : fm_lkC RX3 93 := ⟨fm_at 528 (by decide +kernel) (by decide +kernel), fm_at 530 (by decide +kernel) (by decide +kernel), fm_at 529 (by decide +kernel) (by decide +kernel), fm_at 71 (by decide +kernel) (by decide +kernel)⟩
theorem la_X4_31 : fm_lkC RX4 31 := ⟨fm_at 755 (by decide +kernel) (by decide +kernel), fm_at 530 (by decide +kernel) (by decide +kernel), fm_at 529 (by decide +kernel) (by decide +kernel), fm_at 71 (by decide +kernel) (by decide +kernel)⟩
theorem la_X8_338 : fm_lkC RX8 338 := ⟨fm_at 796 (by decide +kernel) (by decide +kernel), fm_at 530 (by decide +kernel) (by decide +kernel), fm_at 529 (by decide +kernel) (by decide +kernel), fm_at 71 (by decide +kernel) (by decide +kernel)⟩
theorem lx_X4_9 : Cond.methodLink RX4 9 Lib.Math.max.name ∈ fm_tb ∧ Cond.static Lib.Math.max.name ∈ fm_tb ∧ Cond.initialized "java/lang/Math" ∈ fm_tb ∧ Cond.code Lib.Math.max.name Lib.Math.max.code 2 (some .int) ∈ fm_tb := ⟨fm_at 161 (by decide +kernel) (by decide +kernel), fm_at 162 (by decide +kernel) (by decide +kernel), fm_at 64 (by decide +kernel) (by decide +kernel), fm_at 163 (by decide +kernel) (by decide +kernel)⟩
theorem lx_X5_60 : Cond.methodLink RX5 60 Lib.Math.max.name ∈ fm_tb ∧ Cond.static Lib.Math.max.name ∈ fm_tb ∧ Cond.initialized "java/lang/Math" ∈ fm_tb ∧ Cond.code Lib.Math.max.name Lib.Math.max.code 2 (some .int) ∈ fm_tb := ⟨fm_at 457 (by decide +kernel) (by decide +kernel), fm_at 162 (by decide +kernel) (by decide +kernel), fm_at 64 (by decide +kernel) (by decide +kernel), fm_at 163 (by decide +kernel) (by decide +kernel)⟩
theorem lx_X4_28 : Cond.methodLink RX4 28 Lib.Math.min.name ∈ fm_tb ∧ Cond.static Lib.Math.min.name ∈ fm_tb ∧ Cond.initialized "java/lang/Math" ∈ fm_tb ∧ Cond.code Lib.Math.min.name Lib.Math.min.code 2 (some .int) ∈ fm_tb := ⟨fm_at 752 (by decide +kernel) (by decide +kernel), fm_at 753 (by decide +kernel) (by decide +kernel), fm_at 64 (by decide +kernel) (by decide +kernel), fm_at 754 (by decide +kernel) (by decide +kernel)⟩
end
