-- ===== PART A: goes FIRST, ahead of the names: the tables' words, and 'selects' of the private methods out of them =====
/-- a private method of a class that the tables say can be made, by its rows of tables_1 -/
def lw_okq (q : MethodName × Nat) : Prop := (q.1.cls ≠ "java/lang/invoke/MethodHandle" ∧ q.1.cls ≠ "java/lang/invoke/VarHandle") ∧ Cond.instantiable q.1.cls q.2 ∈ tables_1 ∧ Cond.privateMethod q.1 ∈ tables_1 ∧ Cond.instanceMethod q.1 ∈ tables_1
theorem lw_p0 : lw_okq (⟨"TwelveShort", "isPerson", "(I)Z"⟩, 11) := ⟨⟨by decide +kernel, by decide +kernel⟩, List.mem_of_getElem? (i := 19) (by decide +kernel), List.mem_of_getElem? (i := 291) (by decide +kernel), List.mem_of_getElem? (i := 292) (by decide +kernel)⟩
theorem lw_p1 : lw_okq (⟨"TwelveShort", "lawThatCounts", "(LTwelveShort$House;I)LTwelveShort$Law;"⟩, 11) := ⟨⟨by decide +kernel, by decide +kernel⟩, List.mem_of_getElem? (i := 19) (by decide +kernel), List.mem_of_getElem? (i := 295) (by decide +kernel), List.mem_of_getElem? (i := 296) (by decide +kernel)⟩
theorem lw_p2 : lw_okq (⟨"TwelveShort$House", "broughtBy", "(I)I"⟩, 12) := ⟨⟨by decide +kernel, by decide +kernel⟩, List.mem_of_getElem? (i := 27) (by decide +kernel), List.mem_of_getElem? (i := 399) (by decide +kernel), List.mem_of_getElem? (i := 400) (by decide +kernel)⟩
theorem lw_p3 : lw_okq (⟨"TwelveShort$House", "withOneSentFor", "(I)I"⟩, 12) := ⟨⟨by decide +kernel, by decide +kernel⟩, List.mem_of_getElem? (i := 27) (by decide +kernel), List.mem_of_getElem? (i := 414) (by decide +kernel), List.mem_of_getElem? (i := 415) (by decide +kernel)⟩
theorem lw_p4 : lw_okq (⟨"TwelveShort$House", "drawComers", "(LTwelveShort$Law;)I"⟩, 12) := ⟨⟨by decide +kernel, by decide +kernel⟩, List.mem_of_getElem? (i := 27) (by decide +kernel), List.mem_of_getElem? (i := 434) (by decide +kernel), List.mem_of_getElem? (i := 435) (by decide +kernel)⟩
theorem lw_p5 : lw_okq (⟨"TwelveShort$House", "drawFog", "()V"⟩, 12) := ⟨⟨by decide +kernel, by decide +kernel⟩, List.mem_of_getElem? (i := 27) (by decide +kernel), List.mem_of_getElem? (i := 440) (by decide +kernel), List.mem_of_getElem? (i := 441) (by decide +kernel)⟩
theorem lw_p6 : lw_okq (⟨"TwelveShort", "sumDifferences", "(LTwelveShort$Row;)V"⟩, 11) := ⟨⟨by decide +kernel, by decide +kernel⟩, List.mem_of_getElem? (i := 19) (by decide +kernel), List.mem_of_getElem? (i := 501) (by decide +kernel), List.mem_of_getElem? (i := 502) (by decide +kernel)⟩
theorem lw_p7 : lw_okq (⟨"TwelveShort$Tape", "byteAt", "(I)I"⟩, 5) := ⟨⟨by decide +kernel, by decide +kernel⟩, List.mem_of_getElem? (i := 124) (by decide +kernel), List.mem_of_getElem? (i := 557) (by decide +kernel), List.mem_of_getElem? (i := 558) (by decide +kernel)⟩
theorem lw_p8 : lw_okq (⟨"TwelveShort$Tape", "sortAt", "(I)I"⟩, 5) := ⟨⟨by decide +kernel, by decide +kernel⟩, List.mem_of_getElem? (i := 124) (by decide +kernel), List.mem_of_getElem? (i := 561) (by decide +kernel), List.mem_of_getElem? (i := 562) (by decide +kernel)⟩
theorem lw_p9 : lw_okq (⟨"TwelveShort$Reader", "readKey", "(LTwelveShort$Law;)V"⟩, 4) := ⟨⟨by decide +kernel, by decide +kernel⟩, List.mem_of_getElem? (i := 118) (by decide +kernel), List.mem_of_getElem? (i := 565) (by decide +kernel), List.mem_of_getElem? (i := 566) (by decide +kernel)⟩
theorem lw_p10 : lw_okq (⟨"TwelveShort$Reader", "fail", "()V"⟩, 4) := ⟨⟨by decide +kernel, by decide +kernel⟩, List.mem_of_getElem? (i := 118) (by decide +kernel), List.mem_of_getElem? (i := 632) (by decide +kernel), List.mem_of_getElem? (i := 633) (by decide +kernel)⟩
theorem lw_p11 : lw_okq (⟨"TwelveShort$Reader", "readLevel", "(ILTwelveShort$Law;)V"⟩, 4) := ⟨⟨by decide +kernel, by decide +kernel⟩, List.mem_of_getElem? (i := 118) (by decide +kernel), List.mem_of_getElem? (i := 636) (by decide +kernel), List.mem_of_getElem? (i := 637) (by decide +kernel)⟩
theorem lw_p12 : lw_okq (⟨"TwelveShort$Reader", "readPiece", "(LTwelveShort$Law;)V"⟩, 4) := ⟨⟨by decide +kernel, by decide +kernel⟩, List.mem_of_getElem? (i := 118) (by decide +kernel), List.mem_of_getElem? (i := 640) (by decide +kernel), List.mem_of_getElem? (i := 641) (by decide +kernel)⟩
theorem lw_p13 : lw_okq (⟨"TwelveShort$Law", "addStep", "(I)V"⟩, 5) := ⟨⟨by decide +kernel, by decide +kernel⟩, List.mem_of_getElem? (i := 166) (by decide +kernel), List.mem_of_getElem? (i := 713) (by decide +kernel), List.mem_of_getElem? (i := 714) (by decide +kernel)⟩
theorem lw_p14 : lw_okq (⟨"TwelveShort$Reader", "readNot", "(LTwelveShort$Law;)V"⟩, 4) := ⟨⟨by decide +kernel, by decide +kernel⟩, List.mem_of_getElem? (i := 118) (by decide +kernel), List.mem_of_getElem? (i := 734) (by decide +kernel), List.mem_of_getElem? (i := 735) (by decide +kernel)⟩
theorem lw_p15 : lw_okq (⟨"TwelveShort$Reader", "readBracket", "(LTwelveShort$Law;)V"⟩, 4) := ⟨⟨by decide +kernel, by decide +kernel⟩, List.mem_of_getElem? (i := 118) (by decide +kernel), List.mem_of_getElem? (i := 742) (by decide +kernel), List.mem_of_getElem? (i := 743) (by decide +kernel)⟩
def lw_privs_1 : List (MethodName × Nat) := [(⟨"TwelveShort", "isPerson", "(I)Z"⟩, 11), (⟨"TwelveShort", "lawThatCounts", "(LTwelveShort$House;I)LTwelveShort$Law;"⟩, 11), (⟨"TwelveShort$House", "broughtBy", "(I)I"⟩, 12), (⟨"TwelveShort$House", "withOneSentFor", "(I)I"⟩, 12), (⟨"TwelveShort$House", "drawComers", "(LTwelveShort$Law;)I"⟩, 12), (⟨"TwelveShort$House", "drawFog", "()V"⟩, 12), (⟨"TwelveShort", "sumDifferences", "(LTwelveShort$Row;)V"⟩, 11), (⟨"TwelveShort$Tape", "byteAt", "(I)I"⟩, 5), (⟨"TwelveShort$Tape", "sortAt", "(I)I"⟩, 5), (⟨"TwelveShort$Reader", "readKey", "(LTwelveShort$Law;)V"⟩, 4), (⟨"TwelveShort$Reader", "fail", "()V"⟩, 4), (⟨"TwelveShort$Reader", "readLevel", "(ILTwelveShort$Law;)V"⟩, 4), (⟨"TwelveShort$Reader", "readPiece", "(LTwelveShort$Law;)V"⟩, 4), (⟨"TwelveShort$Law", "addStep", "(I)V"⟩, 5), (⟨"TwelveShort$Reader", "readNot", "(LTwelveShort$Law;)V"⟩, 4), (⟨"TwelveShort$Reader", "readBracket", "(LTwelveShort$Law;)V"⟩, 4)]
theorem lw_r1 : ∀ q ∈ lw_privs_1, lw_okq q := List.forall_mem_cons.mpr ⟨lw_p0, List.forall_mem_cons.mpr ⟨lw_p1, List.forall_mem_cons.mpr ⟨lw_p2, List.forall_mem_cons.mpr ⟨lw_p3, List.forall_mem_cons.mpr ⟨lw_p4, List.forall_mem_cons.mpr ⟨lw_p5, List.forall_mem_cons.mpr ⟨lw_p6, List.forall_mem_cons.mpr ⟨lw_p7, List.forall_mem_cons.mpr ⟨lw_p8, List.forall_mem_cons.mpr ⟨lw_p9, List.forall_mem_cons.mpr ⟨lw_p10, List.forall_mem_cons.mpr ⟨lw_p11, List.forall_mem_cons.mpr ⟨lw_p12, List.forall_mem_cons.mpr ⟨lw_p13, List.forall_mem_cons.mpr ⟨lw_p14, List.forall_mem_cons.mpr ⟨lw_p15, fun _ h => absurd h List.not_mem_nil⟩⟩⟩⟩⟩⟩⟩⟩⟩⟩⟩⟩⟩⟩⟩⟩
theorem lw_p16 : lw_okq (⟨"TwelveShort", "firstOtherwise", "(II)I"⟩, 11) := ⟨⟨by decide +kernel, by decide +kernel⟩, List.mem_of_getElem? (i := 19) (by decide +kernel), List.mem_of_getElem? (i := 828) (by decide +kernel), List.mem_of_getElem? (i := 829) (by decide +kernel)⟩
theorem lw_p17 : lw_okq (⟨"TwelveShort", "isNext", "(III)Z"⟩, 11) := ⟨⟨by decide +kernel, by decide +kernel⟩, List.mem_of_getElem? (i := 19) (by decide +kernel), List.mem_of_getElem? (i := 832) (by decide +kernel), List.mem_of_getElem? (i := 833) (by decide +kernel)⟩
theorem lw_p18 : lw_okq (⟨"TwelveShortModel", "joins", "(IIII)V"⟩, 31) := ⟨⟨by decide +kernel, by decide +kernel⟩, List.mem_of_getElem? (i := 849) (by decide +kernel), List.mem_of_getElem? (i := 961) (by decide +kernel), List.mem_of_getElem? (i := 962) (by decide +kernel)⟩
theorem lw_p19 : lw_okq (⟨"TwelveShortModel", "sets", "(III)V"⟩, 31) := ⟨⟨by decide +kernel, by decide +kernel⟩, List.mem_of_getElem? (i := 849) (by decide +kernel), List.mem_of_getElem? (i := 965) (by decide +kernel), List.mem_of_getElem? (i := 966) (by decide +kernel)⟩
theorem lw_p20 : lw_okq (⟨"TwelveShortModel", "isPerson", "(I)Z"⟩, 31) := ⟨⟨by decide +kernel, by decide +kernel⟩, List.mem_of_getElem? (i := 849) (by decide +kernel), List.mem_of_getElem? (i := 973) (by decide +kernel), List.mem_of_getElem? (i := 974) (by decide +kernel)⟩
theorem lw_p21 : lw_okq (⟨"TwelveShortModel", "comesBy", "(I)I"⟩, 31) := ⟨⟨by decide +kernel, by decide +kernel⟩, List.mem_of_getElem? (i := 849) (by decide +kernel), List.mem_of_getElem? (i := 978) (by decide +kernel), List.mem_of_getElem? (i := 979) (by decide +kernel)⟩
theorem lw_p22 : lw_okq (⟨"TwelveShortModel", "plain", "(I)I"⟩, 31) := ⟨⟨by decide +kernel, by decide +kernel⟩, List.mem_of_getElem? (i := 849) (by decide +kernel), List.mem_of_getElem? (i := 982) (by decide +kernel), List.mem_of_getElem? (i := 983) (by decide +kernel)⟩
theorem lw_p23 : lw_okq (⟨"TwelveShortModel", "counts", "(I)I"⟩, 31) := ⟨⟨by decide +kernel, by decide +kernel⟩, List.mem_of_getElem? (i := 849) (by decide +kernel), List.mem_of_getElem? (i := 986) (by decide +kernel), List.mem_of_getElem? (i := 987) (by decide +kernel)⟩
theorem lw_p24 : lw_okq (⟨"TwelveShortModel", "textAt", "(I)I"⟩, 31) := ⟨⟨by decide +kernel, by decide +kernel⟩, List.mem_of_getElem? (i := 849) (by decide +kernel), List.mem_of_getElem? (i := 990) (by decide +kernel), List.mem_of_getElem? (i := 991) (by decide +kernel)⟩
theorem lw_p25 : lw_okq (⟨"TwelveShortModel", "of", "(II)I"⟩, 31) := ⟨⟨by decide +kernel, by decide +kernel⟩, List.mem_of_getElem? (i := 849) (by decide +kernel), List.mem_of_getElem? (i := 994) (by decide +kernel), List.mem_of_getElem? (i := 995) (by decide +kernel)⟩
theorem lw_p26 : lw_okq (⟨"TwelveShortModel", "worked", "(I)I"⟩, 31) := ⟨⟨by decide +kernel, by decide +kernel⟩, List.mem_of_getElem? (i := 849) (by decide +kernel), List.mem_of_getElem? (i := 1001) (by decide +kernel), List.mem_of_getElem? (i := 1002) (by decide +kernel)⟩
theorem lw_p27 : lw_okq (⟨"TwelveShortModel", "walks", "(I)I"⟩, 31) := ⟨⟨by decide +kernel, by decide +kernel⟩, List.mem_of_getElem? (i := 849) (by decide +kernel), List.mem_of_getElem? (i := 1014) (by decide +kernel), List.mem_of_getElem? (i := 1015) (by decide +kernel)⟩
theorem lw_p28 : lw_okq (⟨"TwelveShortModel", "brings", "(I)I"⟩, 31) := ⟨⟨by decide +kernel, by decide +kernel⟩, List.mem_of_getElem? (i := 849) (by decide +kernel), List.mem_of_getElem? (i := 1018) (by decide +kernel), List.mem_of_getElem? (i := 1019) (by decide +kernel)⟩
theorem lw_p29 : lw_okq (⟨"TwelveShortModel", "worth", "(I)I"⟩, 31) := ⟨⟨by decide +kernel, by decide +kernel⟩, List.mem_of_getElem? (i := 849) (by decide +kernel), List.mem_of_getElem? (i := 1022) (by decide +kernel), List.mem_of_getElem? (i := 1023) (by decide +kernel)⟩
theorem lw_p30 : lw_okq (⟨"TwelveShortModel", "changes", "(II)I"⟩, 31) := ⟨⟨by decide +kernel, by decide +kernel⟩, List.mem_of_getElem? (i := 849) (by decide +kernel), List.mem_of_getElem? (i := 1038) (by decide +kernel), List.mem_of_getElem? (i := 1039) (by decide +kernel)⟩
theorem lw_p31 : lw_okq (⟨"TwelveShortModel", "drawn", "()I"⟩, 31) := ⟨⟨by decide +kernel, by decide +kernel⟩, List.mem_of_getElem? (i := 849) (by decide +kernel), List.mem_of_getElem? (i := 1057) (by decide +kernel), List.mem_of_getElem? (i := 1058) (by decide +kernel)⟩
def lw_privs_2 : List (MethodName × Nat) := [(⟨"TwelveShort", "firstOtherwise", "(II)I"⟩, 11), (⟨"TwelveShort", "isNext", "(III)Z"⟩, 11), (⟨"TwelveShortModel", "joins", "(IIII)V"⟩, 31), (⟨"TwelveShortModel", "sets", "(III)V"⟩, 31), (⟨"TwelveShortModel", "isPerson", "(I)Z"⟩, 31), (⟨"TwelveShortModel", "comesBy", "(I)I"⟩, 31), (⟨"TwelveShortModel", "plain", "(I)I"⟩, 31), (⟨"TwelveShortModel", "counts", "(I)I"⟩, 31), (⟨"TwelveShortModel", "textAt", "(I)I"⟩, 31), (⟨"TwelveShortModel", "of", "(II)I"⟩, 31), (⟨"TwelveShortModel", "worked", "(I)I"⟩, 31), (⟨"TwelveShortModel", "walks", "(I)I"⟩, 31), (⟨"TwelveShortModel", "brings", "(I)I"⟩, 31), (⟨"TwelveShortModel", "worth", "(I)I"⟩, 31), (⟨"TwelveShortModel", "changes", "(II)I"⟩, 31), (⟨"TwelveShortModel", "drawn", "()I"⟩, 31)]
theorem lw_r2 : ∀ q ∈ lw_privs_2, lw_okq q := List.forall_mem_cons.mpr ⟨lw_p16, List.forall_mem_cons.mpr ⟨lw_p17, List.forall_mem_cons.mpr ⟨lw_p18, List.forall_mem_cons.mpr ⟨lw_p19, List.forall_mem_cons.mpr ⟨lw_p20, List.forall_mem_cons.mpr ⟨lw_p21, List.forall_mem_cons.mpr ⟨lw_p22, List.forall_mem_cons.mpr ⟨lw_p23, List.forall_mem_cons.mpr ⟨lw_p24, List.forall_mem_cons.mpr ⟨lw_p25, List.forall_mem_cons.mpr ⟨lw_p26, List.forall_mem_cons.mpr ⟨lw_p27, List.forall_mem_cons.mpr ⟨lw_p28, List.forall_mem_cons.mpr ⟨lw_p29, List.forall_mem_cons.mpr ⟨lw_p30, List.forall_mem_cons.mpr ⟨lw_p31, fun _ h => absurd h List.not_mem_nil⟩⟩⟩⟩⟩⟩⟩⟩⟩⟩⟩⟩⟩⟩⟩⟩
theorem lw_p32 : lw_okq (⟨"TwelveShortModel", "broughtBy", "(I)I"⟩, 31) := ⟨⟨by decide +kernel, by decide +kernel⟩, List.mem_of_getElem? (i := 849) (by decide +kernel), List.mem_of_getElem? (i := 1071) (by decide +kernel), List.mem_of_getElem? (i := 1072) (by decide +kernel)⟩
theorem lw_p33 : lw_okq (⟨"TwelveShortModel", "dines", "(I)I"⟩, 31) := ⟨⟨by decide +kernel, by decide +kernel⟩, List.mem_of_getElem? (i := 849) (by decide +kernel), List.mem_of_getElem? (i := 1080) (by decide +kernel), List.mem_of_getElem? (i := 1081) (by decide +kernel)⟩
theorem lw_p34 : lw_okq (⟨"TwelveShortModel", "nearest", "(I)I"⟩, 31) := ⟨⟨by decide +kernel, by decide +kernel⟩, List.mem_of_getElem? (i := 849) (by decide +kernel), List.mem_of_getElem? (i := 1084) (by decide +kernel), List.mem_of_getElem? (i := 1085) (by decide +kernel)⟩
theorem lw_p35 : lw_okq (⟨"TwelveShortModel", "goesOnMany", "(I)V"⟩, 31) := ⟨⟨by decide +kernel, by decide +kernel⟩, List.mem_of_getElem? (i := 849) (by decide +kernel), List.mem_of_getElem? (i := 1093) (by decide +kernel), List.mem_of_getElem? (i := 1094) (by decide +kernel)⟩
theorem lw_p36 : lw_okq (⟨"TwelveShortModel", "goesOn", "()V"⟩, 31) := ⟨⟨by decide +kernel, by decide +kernel⟩, List.mem_of_getElem? (i := 849) (by decide +kernel), List.mem_of_getElem? (i := 1097) (by decide +kernel), List.mem_of_getElem? (i := 1098) (by decide +kernel)⟩
theorem lw_p37 : lw_okq (⟨"TwelveShortModel", "houseOf", "(I)I"⟩, 31) := ⟨⟨by decide +kernel, by decide +kernel⟩, List.mem_of_getElem? (i := 849) (by decide +kernel), List.mem_of_getElem? (i := 1105) (by decide +kernel), List.mem_of_getElem? (i := 1106) (by decide +kernel)⟩
theorem lw_p38 : lw_okq (⟨"TwelveShortModel", "sumOf", "(I)I"⟩, 31) := ⟨⟨by decide +kernel, by decide +kernel⟩, List.mem_of_getElem? (i := 849) (by decide +kernel), List.mem_of_getElem? (i := 1109) (by decide +kernel), List.mem_of_getElem? (i := 1110) (by decide +kernel)⟩
theorem lw_p39 : lw_okq (⟨"TwelveShortModel", "laysBy", "()V"⟩, 31) := ⟨⟨by decide +kernel, by decide +kernel⟩, List.mem_of_getElem? (i := 849) (by decide +kernel), List.mem_of_getElem? (i := 1120) (by decide +kernel), List.mem_of_getElem? (i := 1121) (by decide +kernel)⟩
theorem lw_p40 : lw_okq (⟨"TwelveShortModel", "laysBack", "()V"⟩, 31) := ⟨⟨by decide +kernel, by decide +kernel⟩, List.mem_of_getElem? (i := 849) (by decide +kernel), List.mem_of_getElem? (i := 1124) (by decide +kernel), List.mem_of_getElem? (i := 1125) (by decide +kernel)⟩
theorem lw_p41 : lw_okq (⟨"TwelveShortModel", "mostBy", "(IIIII)I"⟩, 31) := ⟨⟨by decide +kernel, by decide +kernel⟩, List.mem_of_getElem? (i := 849) (by decide +kernel), List.mem_of_getElem? (i := 1140) (by decide +kernel), List.mem_of_getElem? (i := 1141) (by decide +kernel)⟩
theorem lw_p42 : lw_okq (⟨"TwelveShortModel", "parse", "()I"⟩, 31) := ⟨⟨by decide +kernel, by decide +kernel⟩, List.mem_of_getElem? (i := 849) (by decide +kernel), List.mem_of_getElem? (i := 1172) (by decide +kernel), List.mem_of_getElem? (i := 1173) (by decide +kernel)⟩
theorem lw_p43 : lw_okq (⟨"TwelveShortModel", "nextToken", "()V"⟩, 31) := ⟨⟨by decide +kernel, by decide +kernel⟩, List.mem_of_getElem? (i := 849) (by decide +kernel), List.mem_of_getElem? (i := 1176) (by decide +kernel), List.mem_of_getElem? (i := 1177) (by decide +kernel)⟩
theorem lw_p44 : lw_okq (⟨"TwelveShortModel", "isLetter", "(I)Z"⟩, 31) := ⟨⟨by decide +kernel, by decide +kernel⟩, List.mem_of_getElem? (i := 849) (by decide +kernel), List.mem_of_getElem? (i := 1180) (by decide +kernel), List.mem_of_getElem? (i := 1181) (by decide +kernel)⟩
theorem lw_p45 : lw_okq (⟨"TwelveShortModel", "isDigit", "(I)Z"⟩, 31) := ⟨⟨by decide +kernel, by decide +kernel⟩, List.mem_of_getElem? (i := 849) (by decide +kernel), List.mem_of_getElem? (i := 1186) (by decide +kernel), List.mem_of_getElem? (i := 1187) (by decide +kernel)⟩
theorem lw_p46 : lw_okq (⟨"TwelveShortModel", "key", "()I"⟩, 31) := ⟨⟨by decide +kernel, by decide +kernel⟩, List.mem_of_getElem? (i := 849) (by decide +kernel), List.mem_of_getElem? (i := 1192) (by decide +kernel), List.mem_of_getElem? (i := 1193) (by decide +kernel)⟩
theorem lw_p47 : lw_okq (⟨"TwelveShortModel", "isWordAt", "(IIII)Z"⟩, 31) := ⟨⟨by decide +kernel, by decide +kernel⟩, List.mem_of_getElem? (i := 849) (by decide +kernel), List.mem_of_getElem? (i := 1196) (by decide +kernel), List.mem_of_getElem? (i := 1197) (by decide +kernel)⟩
def lw_privs_3 : List (MethodName × Nat) := [(⟨"TwelveShortModel", "broughtBy", "(I)I"⟩, 31), (⟨"TwelveShortModel", "dines", "(I)I"⟩, 31), (⟨"TwelveShortModel", "nearest", "(I)I"⟩, 31), (⟨"TwelveShortModel", "goesOnMany", "(I)V"⟩, 31), (⟨"TwelveShortModel", "goesOn", "()V"⟩, 31), (⟨"TwelveShortModel", "houseOf", "(I)I"⟩, 31), (⟨"TwelveShortModel", "sumOf", "(I)I"⟩, 31), (⟨"TwelveShortModel", "laysBy", "()V"⟩, 31), (⟨"TwelveShortModel", "laysBack", "()V"⟩, 31), (⟨"TwelveShortModel", "mostBy", "(IIIII)I"⟩, 31), (⟨"TwelveShortModel", "parse", "()I"⟩, 31), (⟨"TwelveShortModel", "nextToken", "()V"⟩, 31), (⟨"TwelveShortModel", "isLetter", "(I)Z"⟩, 31), (⟨"TwelveShortModel", "isDigit", "(I)Z"⟩, 31), (⟨"TwelveShortModel", "key", "()I"⟩, 31), (⟨"TwelveShortModel", "isWordAt", "(IIII)Z"⟩, 31)]
theorem lw_r3 : ∀ q ∈ lw_privs_3, lw_okq q := List.forall_mem_cons.mpr ⟨lw_p32, List.forall_mem_cons.mpr ⟨lw_p33, List.forall_mem_cons.mpr ⟨lw_p34, List.forall_mem_cons.mpr ⟨lw_p35, List.forall_mem_cons.mpr ⟨lw_p36, List.forall_mem_cons.mpr ⟨lw_p37, List.forall_mem_cons.mpr ⟨lw_p38, List.forall_mem_cons.mpr ⟨lw_p39, List.forall_mem_cons.mpr ⟨lw_p40, List.forall_mem_cons.mpr ⟨lw_p41, List.forall_mem_cons.mpr ⟨lw_p42, List.forall_mem_cons.mpr ⟨lw_p43, List.forall_mem_cons.mpr ⟨lw_p44, List.forall_mem_cons.mpr ⟨lw_p45, List.forall_mem_cons.mpr ⟨lw_p46, List.forall_mem_cons.mpr ⟨lw_p47, fun _ h => absurd h List.not_mem_nil⟩⟩⟩⟩⟩⟩⟩⟩⟩⟩⟩⟩⟩⟩⟩⟩
theorem lw_p48 : lw_okq (⟨"TwelveShortModel", "either", "(I)Z"⟩, 31) := ⟨⟨by decide +kernel, by decide +kernel⟩, List.mem_of_getElem? (i := 849) (by decide +kernel), List.mem_of_getElem? (i := 1200) (by decide +kernel), List.mem_of_getElem? (i := 1201) (by decide +kernel)⟩
theorem lw_p49 : lw_okq (⟨"TwelveShortModel", "both", "(I)Z"⟩, 31) := ⟨⟨by decide +kernel, by decide +kernel⟩, List.mem_of_getElem? (i := 849) (by decide +kernel), List.mem_of_getElem? (i := 1204) (by decide +kernel), List.mem_of_getElem? (i := 1205) (by decide +kernel)⟩
theorem lw_p50 : lw_okq (⟨"TwelveShortModel", "test", "(I)Z"⟩, 31) := ⟨⟨by decide +kernel, by decide +kernel⟩, List.mem_of_getElem? (i := 849) (by decide +kernel), List.mem_of_getElem? (i := 1208) (by decide +kernel), List.mem_of_getElem? (i := 1209) (by decide +kernel)⟩
theorem lw_p51 : lw_okq (⟨"TwelveShortModel", "sum", "(I)Z"⟩, 31) := ⟨⟨by decide +kernel, by decide +kernel⟩, List.mem_of_getElem? (i := 849) (by decide +kernel), List.mem_of_getElem? (i := 1212) (by decide +kernel), List.mem_of_getElem? (i := 1213) (by decide +kernel)⟩
theorem lw_p52 : lw_okq (⟨"TwelveShortModel", "term", "(I)Z"⟩, 31) := ⟨⟨by decide +kernel, by decide +kernel⟩, List.mem_of_getElem? (i := 849) (by decide +kernel), List.mem_of_getElem? (i := 1216) (by decide +kernel), List.mem_of_getElem? (i := 1217) (by decide +kernel)⟩
theorem lw_p53 : lw_okq (⟨"TwelveShortModel", "part0", "(I)Z"⟩, 31) := ⟨⟨by decide +kernel, by decide +kernel⟩, List.mem_of_getElem? (i := 849) (by decide +kernel), List.mem_of_getElem? (i := 1220) (by decide +kernel), List.mem_of_getElem? (i := 1221) (by decide +kernel)⟩
theorem lw_p54 : lw_okq (⟨"TwelveShortModel", "step", "(II)V"⟩, 31) := ⟨⟨by decide +kernel, by decide +kernel⟩, List.mem_of_getElem? (i := 849) (by decide +kernel), List.mem_of_getElem? (i := 1224) (by decide +kernel), List.mem_of_getElem? (i := 1225) (by decide +kernel)⟩
theorem lw_p55 : lw_okq (⟨"TwelveShortModel", "isSign", "(I)Z"⟩, 31) := ⟨⟨by decide +kernel, by decide +kernel⟩, List.mem_of_getElem? (i := 849) (by decide +kernel), List.mem_of_getElem? (i := 1231) (by decide +kernel), List.mem_of_getElem? (i := 1232) (by decide +kernel)⟩
theorem lw_p56 : lw_okq (⟨"TwelveShortModel", "isText", "(I)Z"⟩, 31) := ⟨⟨by decide +kernel, by decide +kernel⟩, List.mem_of_getElem? (i := 849) (by decide +kernel), List.mem_of_getElem? (i := 1239) (by decide +kernel), List.mem_of_getElem? (i := 1240) (by decide +kernel)⟩
theorem lw_p57 : lw_okq (⟨"TwelveShortModel", "unlike", "(II)J"⟩, 31) := ⟨⟨by decide +kernel, by decide +kernel⟩, List.mem_of_getElem? (i := 849) (by decide +kernel), List.mem_of_getElem? (i := 1278) (by decide +kernel), List.mem_of_getElem? (i := 1279) (by decide +kernel)⟩
theorem lw_p58 : lw_okq (⟨"TwelveShortModel", "setAside", "([I[I)V"⟩, 31) := ⟨⟨by decide +kernel, by decide +kernel⟩, List.mem_of_getElem? (i := 849) (by decide +kernel), List.mem_of_getElem? (i := 1318) (by decide +kernel), List.mem_of_getElem? (i := 1319) (by decide +kernel)⟩
def lw_privs_4 : List (MethodName × Nat) := [(⟨"TwelveShortModel", "either", "(I)Z"⟩, 31), (⟨"TwelveShortModel", "both", "(I)Z"⟩, 31), (⟨"TwelveShortModel", "test", "(I)Z"⟩, 31), (⟨"TwelveShortModel", "sum", "(I)Z"⟩, 31), (⟨"TwelveShortModel", "term", "(I)Z"⟩, 31), (⟨"TwelveShortModel", "part0", "(I)Z"⟩, 31), (⟨"TwelveShortModel", "step", "(II)V"⟩, 31), (⟨"TwelveShortModel", "isSign", "(I)Z"⟩, 31), (⟨"TwelveShortModel", "isText", "(I)Z"⟩, 31), (⟨"TwelveShortModel", "unlike", "(II)J"⟩, 31), (⟨"TwelveShortModel", "setAside", "([I[I)V"⟩, 31)]
theorem lw_r4 : ∀ q ∈ lw_privs_4, lw_okq q := List.forall_mem_cons.mpr ⟨lw_p48, List.forall_mem_cons.mpr ⟨lw_p49, List.forall_mem_cons.mpr ⟨lw_p50, List.forall_mem_cons.mpr ⟨lw_p51, List.forall_mem_cons.mpr ⟨lw_p52, List.forall_mem_cons.mpr ⟨lw_p53, List.forall_mem_cons.mpr ⟨lw_p54, List.forall_mem_cons.mpr ⟨lw_p55, List.forall_mem_cons.mpr ⟨lw_p56, List.forall_mem_cons.mpr ⟨lw_p57, List.forall_mem_cons.mpr ⟨lw_p58, fun _ h => absurd h List.not_mem_nil⟩⟩⟩⟩⟩⟩⟩⟩⟩⟩⟩
def lw_privs : List (MethodName × Nat) := lw_privs_1 ++ (lw_privs_2 ++ (lw_privs_3 ++ (lw_privs_4)))
def lw_tbl : List Cond := k2_sels lw_privs ++ tables_1
theorem lw_privs_ok : ∀ q ∈ lw_privs, lw_okq q := by
  show ∀ q ∈ lw_privs_1 ++ (lw_privs_2 ++ (lw_privs_3 ++ (lw_privs_4))), lw_okq q
  exact List.forall_mem_append.mpr ⟨lw_r1, List.forall_mem_append.mpr ⟨lw_r2, List.forall_mem_append.mpr ⟨lw_r3, lw_r4⟩⟩⟩
def RX0 : String := "TwelveShort$Guest"
def TX0 : u_T := fun k => match k with
  | 0 => ("TwelveShort$Guest", "kind", "I", false)
  | 1 => ("TwelveShort$Guest", "odds", "I", false)
  | 2 => ("TwelveShort$Guest", "steps", "I", false)
  | 3 => ("TwelveShort$Guest", "wit", "I", false)
  | _ => ("TwelveShort$Guest", "times", "I", false)
def tyX0 : Nat → FieldType := fun k => match k with
  | 0 => .int
  | 1 => .int
  | 2 => .int
  | 3 => .int
  | _ => .int
abbrev wsX00 : List Cond := u_ws RX0 TX0 5
theorem nmX0 : ∀ a, a < 5 → ∀ b, b < 5 → a ≠ b → (TX0 a).2.1 ≠ (TX0 b).2.1 := by decide +kernel
theorem tyX0_ok : ∀ k, k < 5 → parseFieldDescriptor (TX0 k).2.2.1 = some (tyX0 k) := by decide +kernel
abbrev cX0_init : ByteArray := prog_2_method_1_code
def yX0_init : MethodName := ⟨RX0, "<init>", "()V"⟩
abbrev cX0_copyFrom : ByteArray := prog_2_method_2_code
def yX0_copyFrom : MethodName := ⟨RX0, "copyFrom", "(LTwelveShort$Guest;)V"⟩
abbrev cX0_isOf : ByteArray := prog_2_method_3_code
def yX0_isOf : MethodName := ⟨RX0, "isOf", "(I)Z"⟩
abbrev cX0_comes : ByteArray := prog_2_method_4_code
def yX0_comes : MethodName := ⟨RX0, "comes", "(II)I"⟩
abbrev cX0_walks : ByteArray := prog_2_method_5_code
def yX0_walks : MethodName := ⟨RX0, "walks", "()I"⟩
abbrev cX0_brings : ByteArray := prog_2_method_6_code
def yX0_brings : MethodName := ⟨RX0, "brings", "()I"⟩
abbrev cX0_worth : ByteArray := prog_2_method_7_code
def yX0_worth : MethodName := ⟨RX0, "worth", "()I"⟩
def RX1 : String := "TwelveShort$House"
def TX1 : u_T := fun k => match k with
  | 0 => ("TwelveShort$House", "guests", "[LTwelveShort$Guest;", true)
  | 1 => ("TwelveShort$House", "counting", "[I", true)
  | 2 => ("TwelveShort$House", "people", "I", false)
  | 3 => ("TwelveShort$House", "never", "I", false)
  | 4 => ("TwelveShort$House", "fog", "I", false)
  | 5 => ("TwelveShort$House", "sat", "I", false)
  | 6 => ("TwelveShort$House", "talk", "I", false)
  | 7 => ("TwelveShort$House", "sent", "I", false)
  | 8 => ("TwelveShort$House", "failed", "I", false)
  | 9 => ("TwelveShort$House", "evening", "I", false)
  | 10 => ("TwelveShort$House", "z", "I", false)
  | _ => ("TwelveShort$House", "texts", "I", false)
def tyX1 : Nat → FieldType := fun k => match k with
  | 0 => .array (.object "TwelveShort$Guest")
  | 1 => .array .int
  | 2 => .int
  | 3 => .int
  | 4 => .int
  | 5 => .int
  | 6 => .int
  | 7 => .int
  | 8 => .int
  | 9 => .int
  | 10 => .int
  | _ => .int
abbrev wsX10 : List Cond := u_ws RX1 TX1 12
theorem nmX1 : ∀ a, a < 12 → ∀ b, b < 12 → a ≠ b → (TX1 a).2.1 ≠ (TX1 b).2.1 := by decide +kernel
theorem tyX1_ok : ∀ k, k < 12 → parseFieldDescriptor (TX1 k).2.2.1 = some (tyX1 k) := by decide +kernel
abbrev cX1_init : ByteArray := prog_3_method_1_code
def yX1_init : MethodName := ⟨RX1, "<init>", "()V"⟩
abbrev cX1_copyFrom : ByteArray := prog_3_method_2_code
def yX1_copyFrom : MethodName := ⟨RX1, "copyFrom", "(LTwelveShort$House;)V"⟩
abbrev cX1_welcome : ByteArray := prog_3_method_3_code
def yX1_welcome : MethodName := ⟨RX1, "welcome", "(IIII)I"⟩
abbrev cX1_welcomeDrawn : ByteArray := prog_3_method_4_code
def yX1_welcomeDrawn : MethodName := ⟨RX1, "welcomeDrawn", "()V"⟩
abbrev cX1_draw : ByteArray := prog_3_method_5_code
def yX1_draw : MethodName := ⟨RX1, "draw", "()I"⟩
abbrev cX1_comesBy : ByteArray := prog_3_method_6_code
def yX1_comesBy : MethodName := ⟨RX1, "comesBy", "(LTwelveShort$Guest;LTwelveShort$Law;)I"⟩
abbrev cX1_nearestBut : ByteArray := prog_3_method_7_code
def yX1_nearestBut : MethodName := ⟨RX1, "nearestBut", "(I)I"⟩
abbrev cX1_dine : ByteArray := prog_3_method_8_code
def yX1_dine : MethodName := ⟨RX1, "dine", "(I)I"⟩
abbrev cX1_withOneSentFor : ByteArray := prog_3_method_9_code
def yX1_withOneSentFor : MethodName := ⟨RX1, "withOneSentFor", "(I)I"⟩
abbrev cX1_pass : ByteArray := prog_3_method_10_code
def yX1_pass : MethodName := ⟨RX1, "pass", "(ILTwelveShort$Law;)V"⟩
abbrev cX1_drawComers : ByteArray := prog_3_method_11_code
def yX1_drawComers : MethodName := ⟨RX1, "drawComers", "(LTwelveShort$Law;)I"⟩
abbrev cX1_drawFog : ByteArray := prog_3_method_12_code
def yX1_drawFog : MethodName := ⟨RX1, "drawFog", "()V"⟩
abbrev cX1_total : ByteArray := prog_3_method_13_code
def yX1_total : MethodName := ⟨RX1, "total", "(I)I"⟩
abbrev cX1_oddsOfAll : ByteArray := prog_3_method_14_code
def yX1_oddsOfAll : MethodName := ⟨RX1, "oddsOfAll", "()I"⟩
abbrev cX1_witOfAll : ByteArray := prog_3_method_15_code
def yX1_witOfAll : MethodName := ⟨RX1, "witOfAll", "()I"⟩
abbrev cX1_fewestThatBring : ByteArray := prog_3_method_16_code
def yX1_fewestThatBring : MethodName := ⟨RX1, "fewestThatBring", "(I)I"⟩
abbrev cX1_broughtBy : ByteArray := prog_3_method_17_code
def yX1_broughtBy : MethodName := ⟨RX1, "broughtBy", "(I)I"⟩
def RX2 : String := "TwelveShort$Law"
def TX2 : u_T := fun k => match k with
  | 0 => ("TwelveShort$Law", "steps", "[I", true)
  | 1 => ("TwelveShort$Law", "values", "[I", true)
  | 2 => ("TwelveShort$Law", "size", "I", false)
  | 3 => ("TwelveShort$Law", "key", "I", false)
  | _ => ("TwelveShort$Law", "leaves", "I", false)
def tyX2 : Nat → FieldType := fun k => match k with
  | 0 => .array .int
  | 1 => .array .int
  | 2 => .int
  | 3 => .int
  | _ => .int
abbrev wsX20 : List Cond := u_ws RX2 TX2 5
theorem nmX2 : ∀ a, a < 5 → ∀ b, b < 5 → a ≠ b → (TX2 a).2.1 ≠ (TX2 b).2.1 := by decide +kernel
theorem tyX2_ok : ∀ k, k < 5 → parseFieldDescriptor (TX2 k).2.2.1 = some (tyX2 k) := by decide +kernel
abbrev cX2_init : ByteArray := prog_4_method_1_code
def yX2_init : MethodName := ⟨RX2, "<init>", "()V"⟩
abbrev cX2_begin : ByteArray := prog_4_method_2_code
def yX2_begin : MethodName := ⟨RX2, "begin", "(I)V"⟩
abbrev cX2_addNumber : ByteArray := prog_4_method_3_code
def yX2_addNumber : MethodName := ⟨RX2, "addNumber", "(I)V"⟩
abbrev cX2_addName : ByteArray := prog_4_method_4_code
def yX2_addName : MethodName := ⟨RX2, "addName", "(I)V"⟩
abbrev cX2_addSign : ByteArray := prog_4_method_5_code
def yX2_addSign : MethodName := ⟨RX2, "addSign", "(I)V"⟩
abbrev cX2_addStep : ByteArray := prog_4_method_6_code
def yX2_addStep : MethodName := ⟨RX2, "addStep", "(I)V"⟩
abbrev cX2_gives : ByteArray := prog_4_method_7_code
def yX2_gives : MethodName := ⟨RX2, "gives", "(IIII)I"⟩
abbrev cX2_named : ByteArray := prog_4_method_8_code
def yX2_named : MethodName := ⟨RX2, "named", "(IIIII)I"⟩
abbrev cX2_worked : ByteArray := prog_4_method_9_code
def yX2_worked : MethodName := ⟨RX2, "worked", "(III)I"⟩
def RX3 : String := "TwelveShort$Reader"
def TX3 : u_T := fun k => match k with
  | 0 => ("TwelveShort$Reader", "tape", "LTwelveShort$Tape;", true)
  | 1 => ("TwelveShort$Reader", "fault", "I", false)
  | 2 => ("TwelveShort$Reader", "openBrackets", "I", false)
  | _ => ("TwelveShort$Reader", "openNots", "I", false)
def tyX3 : Nat → FieldType := fun k => match k with
  | 0 => .object "TwelveShort$Tape"
  | 1 => .int
  | 2 => .int
  | _ => .int
abbrev wsX30 : List Cond := u_ws RX3 TX3 4
theorem nmX3 : ∀ a, a < 4 → ∀ b, b < 4 → a ≠ b → (TX3 a).2.1 ≠ (TX3 b).2.1 := by decide +kernel
theorem tyX3_ok : ∀ k, k < 4 → parseFieldDescriptor (TX3 k).2.2.1 = some (tyX3 k) := by decide +kernel
abbrev cX3_init : ByteArray := prog_5_method_1_code
def yX3_init : MethodName := ⟨RX3, "<init>", "()V"⟩
abbrev cX3_findFault : ByteArray := prog_5_method_2_code
def yX3_findFault : MethodName := ⟨RX3, "findFault", "(LTwelveShort$Law;)I"⟩
abbrev cX3_fail : ByteArray := prog_5_method_3_code
def yX3_fail : MethodName := ⟨RX3, "fail", "()V"⟩
abbrev cX3_readKey : ByteArray := prog_5_method_4_code
def yX3_readKey : MethodName := ⟨RX3, "readKey", "(LTwelveShort$Law;)V"⟩
abbrev cX3_wordOf : ByteArray := prog_5_method_5_code
def yX3_wordOf : MethodName := ⟨RX3, "wordOf", "(I)Ljava/lang/String;"⟩
abbrev cX3_namesOf : ByteArray := prog_5_method_6_code
def yX3_namesOf : MethodName := ⟨RX3, "namesOf", "(I)Ljava/lang/String;"⟩
abbrev cX3_readLevel : ByteArray := prog_5_method_7_code
def yX3_readLevel : MethodName := ⟨RX3, "readLevel", "(ILTwelveShort$Law;)V"⟩
abbrev cX3_levelOf : ByteArray := prog_5_method_8_code
def yX3_levelOf : MethodName := ⟨RX3, "levelOf", "(I)I"⟩
abbrev cX3_readPiece : ByteArray := prog_5_method_9_code
def yX3_readPiece : MethodName := ⟨RX3, "readPiece", "(LTwelveShort$Law;)V"⟩
abbrev cX3_readNot : ByteArray := prog_5_method_10_code
def yX3_readNot : MethodName := ⟨RX3, "readNot", "(LTwelveShort$Law;)V"⟩
abbrev cX3_readBracket : ByteArray := prog_5_method_11_code
def yX3_readBracket : MethodName := ⟨RX3, "readBracket", "(LTwelveShort$Law;)V"⟩
def RX4 : String := "TwelveShort$Row"
def TX4 : u_T := fun k => match k with
  | 0 => ("TwelveShort$Row", "places", "[I", true)
  | 1 => ("TwelveShort$Row", "sort", "I", false)
  | _ => ("TwelveShort$Row", "size", "I", false)
def tyX4 : Nat → FieldType := fun k => match k with
  | 0 => .array .int
  | 1 => .int
  | _ => .int
abbrev wsX40 : List Cond := u_ws RX4 TX4 3
theorem nmX4 : ∀ a, a < 3 → ∀ b, b < 3 → a ≠ b → (TX4 a).2.1 ≠ (TX4 b).2.1 := by decide +kernel
theorem tyX4_ok : ∀ k, k < 3 → parseFieldDescriptor (TX4 k).2.2.1 = some (tyX4 k) := by decide +kernel
abbrev cX4_init : ByteArray := prog_6_method_1_code
def yX4_init : MethodName := ⟨RX4, "<init>", "()V"⟩
abbrev cX4_isMissing : ByteArray := prog_6_method_2_code
def yX4_isMissing : MethodName := ⟨RX4, "isMissing", "()Z"⟩
abbrev cX4_become : ByteArray := prog_6_method_3_code
def yX4_become : MethodName := ⟨RX4, "become", "(II)V"⟩
abbrev cX4_copyFrom : ByteArray := prog_6_method_4_code
def yX4_copyFrom : MethodName := ⟨RX4, "copyFrom", "(LTwelveShort$Row;)V"⟩
abbrev cX4_hasPlace : ByteArray := prog_6_method_5_code
def yX4_hasPlace : MethodName := ⟨RX4, "hasPlace", "(I)Z"⟩
abbrev cX4_hasPlaces : ByteArray := prog_6_method_6_code
def yX4_hasPlaces : MethodName := ⟨RX4, "hasPlaces", "(II)Z"⟩
abbrev cX4_hasNumber : ByteArray := prog_6_method_7_code
def yX4_hasNumber : MethodName := ⟨RX4, "hasNumber", "(I)Z"⟩
def RX5 : String := "TwelveShort$Slot"
def TX5 : u_T := fun k => match k with
  | 0 => ("TwelveShort$Slot", "guest", "LTwelveShort$Guest;", true)
  | 1 => ("TwelveShort$Slot", "row", "LTwelveShort$Row;", true)
  | 2 => ("TwelveShort$Slot", "thing", "I", false)
  | _ => ("TwelveShort$Slot", "number", "I", false)
def tyX5 : Nat → FieldType := fun k => match k with
  | 0 => .object "TwelveShort$Guest"
  | 1 => .object "TwelveShort$Row"
  | 2 => .int
  | _ => .int
abbrev wsX50 : List Cond := u_ws RX5 TX5 4
theorem nmX5 : ∀ a, a < 4 → ∀ b, b < 4 → a ≠ b → (TX5 a).2.1 ≠ (TX5 b).2.1 := by decide +kernel
theorem tyX5_ok : ∀ k, k < 4 → parseFieldDescriptor (TX5 k).2.2.1 = some (tyX5 k) := by decide +kernel
abbrev cX5_init : ByteArray := prog_7_method_1_code
def yX5_init : MethodName := ⟨RX5, "<init>", "()V"⟩
def RX6 : String := "TwelveShort$Tape"
def TX6 : u_T := fun k => match k with
  | 0 => ("TwelveShort$Tape", "bytes", "[I", true)
  | 1 => ("TwelveShort$Tape", "size", "I", false)
  | 2 => ("TwelveShort$Tape", "sort", "I", false)
  | 3 => ("TwelveShort$Tape", "start", "I", false)
  | _ => ("TwelveShort$Tape", "stop", "I", false)
def tyX6 : Nat → FieldType := fun k => match k with
  | 0 => .array .int
  | 1 => .int
  | 2 => .int
  | 3 => .int
  | _ => .int
abbrev wsX60 : List Cond := u_ws RX6 TX6 5
theorem nmX6 : ∀ a, a < 5 → ∀ b, b < 5 → a ≠ b → (TX6 a).2.1 ≠ (TX6 b).2.1 := by decide +kernel
theorem tyX6_ok : ∀ k, k < 5 → parseFieldDescriptor (TX6 k).2.2.1 = some (tyX6 k) := by decide +kernel
abbrev cX6_init : ByteArray := prog_8_method_1_code
def yX6_init : MethodName := ⟨RX6, "<init>", "()V"⟩
abbrev cX6_addFour : ByteArray := prog_8_method_2_code
def yX6_addFour : MethodName := ⟨RX6, "addFour", "(I)V"⟩
abbrev cX6_lookAtFirst : ByteArray := prog_8_method_3_code
def yX6_lookAtFirst : MethodName := ⟨RX6, "lookAtFirst", "()V"⟩
abbrev cX6_lookAtNext : ByteArray := prog_8_method_4_code
def yX6_lookAtNext : MethodName := ⟨RX6, "lookAtNext", "()V"⟩
abbrev cX6_sign : ByteArray := prog_8_method_5_code
def yX6_sign : MethodName := ⟨RX6, "sign", "()I"⟩
abbrev cX6_isWord : ByteArray := prog_8_method_6_code
def yX6_isWord : MethodName := ⟨RX6, "isWord", "(Ljava/lang/String;)Z"⟩
abbrev cX6_isNumber : ByteArray := prog_8_method_7_code
def yX6_isNumber : MethodName := ⟨RX6, "isNumber", "()Z"⟩
abbrev cX6_number : ByteArray := prog_8_method_8_code
def yX6_number : MethodName := ⟨RX6, "number", "()I"⟩
abbrev cX6_nameAmong : ByteArray := prog_8_method_9_code
def yX6_nameAmong : MethodName := ⟨RX6, "nameAmong", "(Ljava/lang/String;)I"⟩
abbrev cX6_byteAt : ByteArray := prog_8_method_10_code
def yX6_byteAt : MethodName := ⟨RX6, "byteAt", "(I)I"⟩
abbrev cX6_sortAt : ByteArray := prog_8_method_11_code
def yX6_sortAt : MethodName := ⟨RX6, "sortAt", "(I)I"⟩
def RX7 : String := "TwelveShort"
def TX7 : u_T := fun k => match k with
  | 0 => ("TwelveShort", "now", "LTwelveShort$House;", true)
  | 1 => ("TwelveShort", "thought", "LTwelveShort$House;", true)
  | 2 => ("TwelveShort", "image", "LTwelveShort$House;", true)
  | 3 => ("TwelveShort", "hasImage", "Z", false)
  | 4 => ("TwelveShort", "laws", "[LTwelveShort$Law;", true)
  | 5 => ("TwelveShort", "reader", "LTwelveShort$Reader;", true)
  | 6 => ("TwelveShort", "rows", "[LTwelveShort$Row;", true)
  | 7 => ("TwelveShort", "slots", "[LTwelveShort$Slot;", true)
  | 8 => ("TwelveShort", "waiting", "[I", true)
  | 9 => ("TwelveShort", "waitingMany", "I", false)
  | _ => ("TwelveShort", "differences", "[I", true)
def tyX7 : Nat → FieldType := fun k => match k with
  | 0 => .object "TwelveShort$House"
  | 1 => .object "TwelveShort$House"
  | 2 => .object "TwelveShort$House"
  | 3 => .boolean
  | 4 => .array (.object "TwelveShort$Law")
  | 5 => .object "TwelveShort$Reader"
  | 6 => .array (.object "TwelveShort$Row")
  | 7 => .array (.object "TwelveShort$Slot")
  | 8 => .array .int
  | 9 => .int
  | _ => .array .int
abbrev wsX70 : List Cond := u_ws RX7 TX7 11
theorem nmX7 : ∀ a, a < 11 → ∀ b, b < 11 → a ≠ b → (TX7 a).2.1 ≠ (TX7 b).2.1 := by decide +kernel
theorem tyX7_ok : ∀ k, k < 11 → parseFieldDescriptor (TX7 k).2.2.1 = some (tyX7 k) := by decide +kernel
abbrev cX7_init : ByteArray := prog_1_method_1_code
def yX7_init : MethodName := ⟨RX7, "<init>", "()V"⟩
abbrev cX7_person : ByteArray := prog_1_method_2_code
def yX7_person : MethodName := ⟨RX7, "person", "(IIII)I"⟩
abbrev cX7_told : ByteArray := prog_1_method_3_code
def yX7_told : MethodName := ⟨RX7, "told", "(II)I"⟩
abbrev cX7_as : ByteArray := prog_1_method_4_code
def yX7_as : MethodName := ⟨RX7, "as", "(II)I"⟩
abbrev cX7_turns : ByteArray := prog_1_method_5_code
def yX7_turns : MethodName := ⟨RX7, "turns", "(II)I"⟩
abbrev cX7_set : ByteArray := prog_1_method_6_code
def yX7_set : MethodName := ⟨RX7, "set", "(III)I"⟩
abbrev cX7_rule : ByteArray := prog_1_method_7_code
def yX7_rule : MethodName := ⟨RX7, "rule", "(II)I"⟩
abbrev cX7_deal : ByteArray := prog_1_method_8_code
def yX7_deal : MethodName := ⟨RX7, "deal", "(I)I"⟩
abbrev cX7_seed : ByteArray := prog_1_method_9_code
def yX7_seed : MethodName := ⟨RX7, "seed", "(I)I"⟩
abbrev cX7_fewest : ByteArray := prog_1_method_10_code
def yX7_fewest : MethodName := ⟨RX7, "fewest", "(II)I"⟩
abbrev cX7_sits : ByteArray := prog_1_method_11_code
def yX7_sits : MethodName := ⟨RX7, "sits", "(I)I"⟩
abbrev cX7_evenings : ByteArray := prog_1_method_12_code
def yX7_evenings : MethodName := ⟨RX7, "evenings", "(I)I"⟩
abbrev cX7_house : ByteArray := prog_1_method_13_code
def yX7_house : MethodName := ⟨RX7, "house", "(I)I"⟩
abbrev cX7_behind : ByteArray := prog_1_method_14_code
def yX7_behind : MethodName := ⟨RX7, "behind", "(II)I"⟩
abbrev cX7_meets : ByteArray := prog_1_method_15_code
def yX7_meets : MethodName := ⟨RX7, "meets", "(II)I"⟩
abbrev cX7_door : ByteArray := prog_1_method_16_code
def yX7_door : MethodName := ⟨RX7, "door", "(II)I"⟩
abbrev cX7_never : ByteArray := prog_1_method_17_code
def yX7_never : MethodName := ⟨RX7, "never", "(II)I"⟩
abbrev cX7_becomes : ByteArray := prog_1_method_18_code
def yX7_becomes : MethodName := ⟨RX7, "becomes", "(III)I"⟩
abbrev cX7_like : ByteArray := prog_1_method_19_code
def yX7_like : MethodName := ⟨RX7, "like", "(II)I"⟩
abbrev cX7_fee : ByteArray := prog_1_method_20_code
def yX7_fee : MethodName := ⟨RX7, "fee", "()I"⟩
abbrev cX7_fine : ByteArray := prog_1_method_21_code
def yX7_fine : MethodName := ⟨RX7, "fine", "(I)I"⟩
abbrev cX7_feed : ByteArray := prog_1_method_22_code
def yX7_feed : MethodName := ⟨RX7, "feed", "(III)I"⟩
abbrev cX7_trim : ByteArray := prog_1_method_23_code
def yX7_trim : MethodName := ⟨RX7, "trim", "(I)I"⟩
abbrev cX7_text : ByteArray := prog_1_method_24_code
def yX7_text : MethodName := ⟨RX7, "text", "()I"⟩
abbrev cX7_textTold : ByteArray := prog_1_method_25_code
def yX7_textTold : MethodName := ⟨RX7, "textTold", "(II)I"⟩
abbrev cX7_why : ByteArray := prog_1_method_26_code
def yX7_why : MethodName := ⟨RX7, "why", "(I)I"⟩
abbrev cX7_sheet : ByteArray := prog_1_method_27_code
def yX7_sheet : MethodName := ⟨RX7, "sheet", "(III)I"⟩
abbrev cX7_mark : ByteArray := prog_1_method_28_code
def yX7_mark : MethodName := ⟨RX7, "mark", "(III)I"⟩
abbrev cX7_pour : ByteArray := prog_1_method_29_code
def yX7_pour : MethodName := ⟨RX7, "pour", "(I)I"⟩
abbrev cX7_reads : ByteArray := prog_1_method_30_code
def yX7_reads : MethodName := ⟨RX7, "reads", "(I)I"⟩
abbrev cX7_copy : ByteArray := prog_1_method_31_code
def yX7_copy : MethodName := ⟨RX7, "copy", "(IIIII)I"⟩
abbrev cX7_lay : ByteArray := prog_1_method_32_code
def yX7_lay : MethodName := ⟨RX7, "lay", "(III)I"⟩
abbrev cX7_ask : ByteArray := prog_1_method_33_code
def yX7_ask : MethodName := ⟨RX7, "ask", "(II)I"⟩
abbrev cX7_item : ByteArray := prog_1_method_34_code
def yX7_item : MethodName := ⟨RX7, "item", "(II)I"⟩
abbrev cX7_rest : ByteArray := prog_1_method_35_code
def yX7_rest : MethodName := ⟨RX7, "rest", "(II)I"⟩
abbrev cX7_tell : ByteArray := prog_1_method_36_code
def yX7_tell : MethodName := ⟨RX7, "tell", "(I)I"⟩
abbrev cX7_check : ByteArray := prog_1_method_37_code
def yX7_check : MethodName := ⟨RX7, "check", "(I)I"⟩
abbrev cX7_keep : ByteArray := prog_1_method_38_code
def yX7_keep : MethodName := ⟨RX7, "keep", "()I"⟩
abbrev cX7_back : ByteArray := prog_1_method_39_code
def yX7_back : MethodName := ⟨RX7, "back", "()I"⟩
abbrev cX7_count : ByteArray := prog_1_method_40_code
def yX7_count : MethodName := ⟨RX7, "count", "(I)I"⟩
abbrev cX7_isWithin : ByteArray := prog_1_method_41_code
def yX7_isWithin : MethodName := ⟨RX7, "isWithin", "(III)Z"⟩
abbrev cX7_held : ByteArray := prog_1_method_42_code
def yX7_held : MethodName := ⟨RX7, "held", "(III)I"⟩
abbrev cX7_isKind : ByteArray := prog_1_method_43_code
def yX7_isKind : MethodName := ⟨RX7, "isKind", "(I)Z"⟩
abbrev cX7_isSheet : ByteArray := prog_1_method_44_code
def yX7_isSheet : MethodName := ⟨RX7, "isSheet", "(I)Z"⟩
abbrev cX7_isSlot : ByteArray := prog_1_method_45_code
def yX7_isSlot : MethodName := ⟨RX7, "isSlot", "(I)Z"⟩
abbrev cX7_isPerson : ByteArray := prog_1_method_46_code
def yX7_isPerson : MethodName := ⟨RX7, "isPerson", "(I)Z"⟩
abbrev cX7_mostOf : ByteArray := prog_1_method_47_code
def yX7_mostOf : MethodName := ⟨RX7, "mostOf", "(I)I"⟩
abbrev cX7_lawThatCounts : ByteArray := prog_1_method_48_code
def yX7_lawThatCounts : MethodName := ⟨RX7, "lawThatCounts", "(LTwelveShort$House;I)LTwelveShort$Law;"⟩
abbrev cX7_sumDifferences : ByteArray := prog_1_method_49_code
def yX7_sumDifferences : MethodName := ⟨RX7, "sumDifferences", "(LTwelveShort$Row;)V"⟩
abbrev cX7_firstOtherwise : ByteArray := prog_1_method_50_code
def yX7_firstOtherwise : MethodName := ⟨RX7, "firstOtherwise", "(II)I"⟩
abbrev cX7_isNext : ByteArray := prog_1_method_51_code
def yX7_isNext : MethodName := ⟨RX7, "isNext", "(III)Z"⟩
def RX8 : String := "TwelveShortModel"
def TX8 : u_T := fun k => match k with
  | 0 => ("TwelveShortModel", "s", "[I", true)
  | 1 => ("TwelveShortModel", "image", "[I", true)
  | 2 => ("TwelveShortModel", "aside", "[I", true)
  | 3 => ("TwelveShortModel", "hasImage", "Z", false)
  | 4 => ("TwelveShortModel", "tSort", "[I", true)
  | 5 => ("TwelveShortModel", "tSize", "[I", true)
  | 6 => ("TwelveShortModel", "tNumber", "[I", true)
  | 7 => ("TwelveShortModel", "held", "[I", true)
  | 8 => ("TwelveShortModel", "heldNumber", "[I", true)
  | 9 => ("TwelveShortModel", "heldWorth", "[I", true)
  | 10 => ("TwelveShortModel", "heldSize", "[I", true)
  | 11 => ("TwelveShortModel", "heldRow", "[I", true)
  | 12 => ("TwelveShortModel", "close", "[I", true)
  | 13 => ("TwelveShortModel", "tape", "[I", true)
  | 14 => ("TwelveShortModel", "taped", "I", false)
  | 15 => ("TwelveShortModel", "begin", "I", false)
  | 16 => ("TwelveShortModel", "behind", "I", false)
  | 17 => ("TwelveShortModel", "token", "I", false)
  | 18 => ("TwelveShortModel", "number", "I", false)
  | 19 => ("TwelveShortModel", "letter", "I", false)
  | 20 => ("TwelveShortModel", "deep", "I", false)
  | 21 => ("TwelveShortModel", "turned", "I", false)
  | 22 => ("TwelveShortModel", "laid", "I", false)
  | 23 => ("TwelveShortModel", "laidAt", "I", false)
  | 24 => ("TwelveShortModel", "said", "I", false)
  | 25 => ("TwelveShortModel", "named", "[I", true)
  | 26 => ("TwelveShortModel", "pile", "[I", true)
  | 27 => ("TwelveShortModel", "carried", "[I", true)
  | 28 => ("TwelveShortModel", "waits", "[I", true)
  | 29 => ("TwelveShortModel", "waiting", "I", false)
  | _ => ("TwelveShortModel", "rowDue", "[I", true)
def tyX8 : Nat → FieldType := fun k => match k with
  | 0 => .array .int
  | 1 => .array .int
  | 2 => .array .int
  | 3 => .boolean
  | 4 => .array .int
  | 5 => .array .int
  | 6 => .array .int
  | 7 => .array .int
  | 8 => .array .int
  | 9 => .array .int
  | 10 => .array .int
  | 11 => .array .int
  | 12 => .array .int
  | 13 => .array .int
  | 14 => .int
  | 15 => .int
  | 16 => .int
  | 17 => .int
  | 18 => .int
  | 19 => .int
  | 20 => .int
  | 21 => .int
  | 22 => .int
  | 23 => .int
  | 24 => .int
  | 25 => .array .int
  | 26 => .array .int
  | 27 => .array .int
  | 28 => .array .int
  | 29 => .int
  | _ => .array .int
abbrev wsX80 : List Cond := u_ws RX8 TX8 31
theorem nmX8 : ∀ a, a < 31 → ∀ b, b < 31 → a ≠ b → (TX8 a).2.1 ≠ (TX8 b).2.1 := by decide +kernel
theorem tyX8_ok : ∀ k, k < 31 → parseFieldDescriptor (TX8 k).2.2.1 = some (tyX8 k) := by decide +kernel
abbrev cX8_init : ByteArray := prog_10_method_1_code
def yX8_init : MethodName := ⟨RX8, "<init>", "()V"⟩
abbrev cX8_isIn : ByteArray := prog_10_method_2_code
def yX8_isIn : MethodName := ⟨RX8, "isIn", "(JJJ)Z"⟩
abbrev cX8_orNone : ByteArray := prog_10_method_3_code
def yX8_orNone : MethodName := ⟨RX8, "orNone", "(I)I"⟩
abbrev cX8_within : ByteArray := prog_10_method_4_code
def yX8_within : MethodName := ⟨RX8, "within", "(II)I"⟩
abbrev cX8_off : ByteArray := prog_10_method_5_code
def yX8_off : MethodName := ⟨RX8, "off", "(II)I"⟩
abbrev cX8_least : ByteArray := prog_10_method_6_code
def yX8_least : MethodName := ⟨RX8, "least", "(II)I"⟩
abbrev cX8_changes : ByteArray := prog_10_method_7_code
def yX8_changes : MethodName := ⟨RX8, "changes", "(II)I"⟩
abbrev cX8_textAt : ByteArray := prog_10_method_8_code
def yX8_textAt : MethodName := ⟨RX8, "textAt", "(I)I"⟩
abbrev cX8_of : ByteArray := prog_10_method_9_code
def yX8_of : MethodName := ⟨RX8, "of", "(II)I"⟩
abbrev cX8_sets : ByteArray := prog_10_method_10_code
def yX8_sets : MethodName := ⟨RX8, "sets", "(III)V"⟩
abbrev cX8_isPerson : ByteArray := prog_10_method_11_code
def yX8_isPerson : MethodName := ⟨RX8, "isPerson", "(I)Z"⟩
abbrev cX8_isText : ByteArray := prog_10_method_12_code
def yX8_isText : MethodName := ⟨RX8, "isText", "(I)Z"⟩
abbrev cX8_drawn : ByteArray := prog_10_method_13_code
def yX8_drawn : MethodName := ⟨RX8, "drawn", "()I"⟩
abbrev cX8_isOf : ByteArray := prog_10_method_14_code
def yX8_isOf : MethodName := ⟨RX8, "isOf", "(II)Z"⟩
abbrev cX8_many : ByteArray := prog_10_method_15_code
def yX8_many : MethodName := ⟨RX8, "many", "(I)I"⟩
abbrev cX8_plain : ByteArray := prog_10_method_16_code
def yX8_plain : MethodName := ⟨RX8, "plain", "(I)I"⟩
abbrev cX8_comesBy : ByteArray := prog_10_method_17_code
def yX8_comesBy : MethodName := ⟨RX8, "comesBy", "(I)I"⟩
abbrev cX8_walks : ByteArray := prog_10_method_18_code
def yX8_walks : MethodName := ⟨RX8, "walks", "(I)I"⟩
abbrev cX8_brings : ByteArray := prog_10_method_19_code
def yX8_brings : MethodName := ⟨RX8, "brings", "(I)I"⟩
abbrev cX8_worth : ByteArray := prog_10_method_20_code
def yX8_worth : MethodName := ⟨RX8, "worth", "(I)I"⟩
abbrev cX8_joins : ByteArray := prog_10_method_21_code
def yX8_joins : MethodName := ⟨RX8, "joins", "(IIII)V"⟩
abbrev cX8_person : ByteArray := prog_10_method_22_code
def yX8_person : MethodName := ⟨RX8, "person", "(IIII)I"⟩
abbrev cX8_told : ByteArray := prog_10_method_23_code
def yX8_told : MethodName := ⟨RX8, "told", "(II)I"⟩
abbrev cX8_as : ByteArray := prog_10_method_24_code
def yX8_as : MethodName := ⟨RX8, "as", "(II)I"⟩
abbrev cX8_turns : ByteArray := prog_10_method_25_code
def yX8_turns : MethodName := ⟨RX8, "turns", "(II)I"⟩
abbrev cX8_set : ByteArray := prog_10_method_26_code
def yX8_set : MethodName := ⟨RX8, "set", "(III)I"⟩
abbrev cX8_rule : ByteArray := prog_10_method_27_code
def yX8_rule : MethodName := ⟨RX8, "rule", "(II)I"⟩
abbrev cX8_deal : ByteArray := prog_10_method_28_code
def yX8_deal : MethodName := ⟨RX8, "deal", "(I)I"⟩
abbrev cX8_seed : ByteArray := prog_10_method_29_code
def yX8_seed : MethodName := ⟨RX8, "seed", "(I)I"⟩
abbrev cX8_broughtBy : ByteArray := prog_10_method_30_code
def yX8_broughtBy : MethodName := ⟨RX8, "broughtBy", "(I)I"⟩
abbrev cX8_fewest : ByteArray := prog_10_method_31_code
def yX8_fewest : MethodName := ⟨RX8, "fewest", "(II)I"⟩
abbrev cX8_nearest : ByteArray := prog_10_method_32_code
def yX8_nearest : MethodName := ⟨RX8, "nearest", "(I)I"⟩
abbrev cX8_dines : ByteArray := prog_10_method_33_code
def yX8_dines : MethodName := ⟨RX8, "dines", "(I)I"⟩
abbrev cX8_sits : ByteArray := prog_10_method_34_code
def yX8_sits : MethodName := ⟨RX8, "sits", "(I)I"⟩
abbrev cX8_goesOn : ByteArray := prog_10_method_35_code
def yX8_goesOn : MethodName := ⟨RX8, "goesOn", "()V"⟩
abbrev cX8_goesOnMany : ByteArray := prog_10_method_36_code
def yX8_goesOnMany : MethodName := ⟨RX8, "goesOnMany", "(I)V"⟩
abbrev cX8_evenings : ByteArray := prog_10_method_37_code
def yX8_evenings : MethodName := ⟨RX8, "evenings", "(I)I"⟩
abbrev cX8_sumOf : ByteArray := prog_10_method_38_code
def yX8_sumOf : MethodName := ⟨RX8, "sumOf", "(I)I"⟩
abbrev cX8_houseOf : ByteArray := prog_10_method_39_code
def yX8_houseOf : MethodName := ⟨RX8, "houseOf", "(I)I"⟩
abbrev cX8_house : ByteArray := prog_10_method_40_code
def yX8_house : MethodName := ⟨RX8, "house", "(I)I"⟩
abbrev cX8_laysBy : ByteArray := prog_10_method_41_code
def yX8_laysBy : MethodName := ⟨RX8, "laysBy", "()V"⟩
abbrev cX8_laysBack : ByteArray := prog_10_method_42_code
def yX8_laysBack : MethodName := ⟨RX8, "laysBack", "()V"⟩
abbrev cX8_behind : ByteArray := prog_10_method_43_code
def yX8_behind : MethodName := ⟨RX8, "behind", "(II)I"⟩
abbrev cX8_meets : ByteArray := prog_10_method_44_code
def yX8_meets : MethodName := ⟨RX8, "meets", "(II)I"⟩
abbrev cX8_isAsked : ByteArray := prog_10_method_45_code
def yX8_isAsked : MethodName := ⟨RX8, "isAsked", "(II)Z"⟩
abbrev cX8_mostBy : ByteArray := prog_10_method_46_code
def yX8_mostBy : MethodName := ⟨RX8, "mostBy", "(IIIII)I"⟩
abbrev cX8_door : ByteArray := prog_10_method_47_code
def yX8_door : MethodName := ⟨RX8, "door", "(II)I"⟩
abbrev cX8_never : ByteArray := prog_10_method_48_code
def yX8_never : MethodName := ⟨RX8, "never", "(II)I"⟩
abbrev cX8_becomes : ByteArray := prog_10_method_49_code
def yX8_becomes : MethodName := ⟨RX8, "becomes", "(III)I"⟩
abbrev cX8_fee : ByteArray := prog_10_method_50_code
def yX8_fee : MethodName := ⟨RX8, "fee", "()I"⟩
abbrev cX8_fine : ByteArray := prog_10_method_51_code
def yX8_fine : MethodName := ⟨RX8, "fine", "(I)I"⟩
abbrev cX8_feed : ByteArray := prog_10_method_52_code
def yX8_feed : MethodName := ⟨RX8, "feed", "(III)I"⟩
abbrev cX8_trim : ByteArray := prog_10_method_53_code
def yX8_trim : MethodName := ⟨RX8, "trim", "(I)I"⟩
abbrev cX8_isLetter : ByteArray := prog_10_method_54_code
def yX8_isLetter : MethodName := ⟨RX8, "isLetter", "(I)Z"⟩
abbrev cX8_isDigit : ByteArray := prog_10_method_55_code
def yX8_isDigit : MethodName := ⟨RX8, "isDigit", "(I)Z"⟩
abbrev cX8_nextToken : ByteArray := prog_10_method_56_code
def yX8_nextToken : MethodName := ⟨RX8, "nextToken", "()V"⟩
abbrev cX8_isSign : ByteArray := prog_10_method_57_code
def yX8_isSign : MethodName := ⟨RX8, "isSign", "(I)Z"⟩
abbrev cX8_isWordAt : ByteArray := prog_10_method_58_code
def yX8_isWordAt : MethodName := ⟨RX8, "isWordAt", "(IIII)Z"⟩
abbrev cX8_key : ByteArray := prog_10_method_59_code
def yX8_key : MethodName := ⟨RX8, "key", "()I"⟩
abbrev cX8_isName : ByteArray := prog_10_method_60_code
def yX8_isName : MethodName := ⟨RX8, "isName", "(II)Z"⟩
abbrev cX8_step : ByteArray := prog_10_method_61_code
def yX8_step : MethodName := ⟨RX8, "step", "(II)V"⟩
abbrev cX8_either : ByteArray := prog_10_method_62_code
def yX8_either : MethodName := ⟨RX8, "either", "(I)Z"⟩
abbrev cX8_both : ByteArray := prog_10_method_63_code
def yX8_both : MethodName := ⟨RX8, "both", "(I)Z"⟩
abbrev cX8_test : ByteArray := prog_10_method_64_code
def yX8_test : MethodName := ⟨RX8, "test", "(I)Z"⟩
abbrev cX8_sum : ByteArray := prog_10_method_65_code
def yX8_sum : MethodName := ⟨RX8, "sum", "(I)Z"⟩
abbrev cX8_term : ByteArray := prog_10_method_66_code
def yX8_term : MethodName := ⟨RX8, "term", "(I)Z"⟩
abbrev cX8_part0 : ByteArray := prog_10_method_67_code
def yX8_part0 : MethodName := ⟨RX8, "part0", "(I)Z"⟩
abbrev cX8_parse : ByteArray := prog_10_method_68_code
def yX8_parse : MethodName := ⟨RX8, "parse", "()I"⟩
abbrev cX8_text : ByteArray := prog_10_method_69_code
def yX8_text : MethodName := ⟨RX8, "text", "()I"⟩
abbrev cX8_textTold : ByteArray := prog_10_method_70_code
def yX8_textTold : MethodName := ⟨RX8, "textTold", "(II)I"⟩
abbrev cX8_counts : ByteArray := prog_10_method_71_code
def yX8_counts : MethodName := ⟨RX8, "counts", "(I)I"⟩
abbrev cX8_why : ByteArray := prog_10_method_72_code
def yX8_why : MethodName := ⟨RX8, "why", "(I)I"⟩
abbrev cX8_joined : ByteArray := prog_10_method_73_code
def yX8_joined : MethodName := ⟨RX8, "joined", "(III)I"⟩
abbrev cX8_worked : ByteArray := prog_10_method_74_code
def yX8_worked : MethodName := ⟨RX8, "worked", "(I)I"⟩
abbrev cX8_isSheet : ByteArray := prog_10_method_75_code
def yX8_isSheet : MethodName := ⟨RX8, "isSheet", "(I)Z"⟩
abbrev cX8_sheet : ByteArray := prog_10_method_76_code
def yX8_sheet : MethodName := ⟨RX8, "sheet", "(III)I"⟩
abbrev cX8_mark : ByteArray := prog_10_method_77_code
def yX8_mark : MethodName := ⟨RX8, "mark", "(III)I"⟩
abbrev cX8_pour : ByteArray := prog_10_method_78_code
def yX8_pour : MethodName := ⟨RX8, "pour", "(I)I"⟩
abbrev cX8_reads : ByteArray := prog_10_method_79_code
def yX8_reads : MethodName := ⟨RX8, "reads", "(I)I"⟩
abbrev cX8_unlike : ByteArray := prog_10_method_80_code
def yX8_unlike : MethodName := ⟨RX8, "unlike", "(II)J"⟩
abbrev cX8_like : ByteArray := prog_10_method_81_code
def yX8_like : MethodName := ⟨RX8, "like", "(II)I"⟩
abbrev cX8_copy : ByteArray := prog_10_method_82_code
def yX8_copy : MethodName := ⟨RX8, "copy", "(IIIII)I"⟩
abbrev cX8_isSlot : ByteArray := prog_10_method_83_code
def yX8_isSlot : MethodName := ⟨RX8, "isSlot", "(I)Z"⟩
abbrev cX8_lay : ByteArray := prog_10_method_84_code
def yX8_lay : MethodName := ⟨RX8, "lay", "(III)I"⟩
abbrev cX8_ask : ByteArray := prog_10_method_85_code
def yX8_ask : MethodName := ⟨RX8, "ask", "(II)I"⟩
abbrev cX8_item : ByteArray := prog_10_method_86_code
def yX8_item : MethodName := ⟨RX8, "item", "(II)I"⟩
abbrev cX8_rest : ByteArray := prog_10_method_87_code
def yX8_rest : MethodName := ⟨RX8, "rest", "(II)I"⟩
abbrev cX8_tell : ByteArray := prog_10_method_88_code
def yX8_tell : MethodName := ⟨RX8, "tell", "(I)I"⟩
abbrev cX8_setAside : ByteArray := prog_10_method_89_code
def yX8_setAside : MethodName := ⟨RX8, "setAside", "([I[I)V"⟩
abbrev cX8_check : ByteArray := prog_10_method_90_code
def yX8_check : MethodName := ⟨RX8, "check", "(I)I"⟩
abbrev cX8_keep : ByteArray := prog_10_method_91_code
def yX8_keep : MethodName := ⟨RX8, "keep", "()I"⟩
abbrev cX8_back : ByteArray := prog_10_method_92_code
def yX8_back : MethodName := ⟨RX8, "back", "()I"⟩
abbrev cX8_count : ByteArray := prog_10_method_93_code
def yX8_count : MethodName := ⟨RX8, "count", "(I)I"⟩
def RJ11 : String := "java/lang/Character"
def TJ11 : u_T := fun k => match k with
  | _ => ("", "", "", false)
def tyJ11 : Nat → FieldType := fun k => match k with
  | _ => .int
abbrev wsJ110 : List Cond := u_ws RJ11 TJ11 0
theorem nmJ11 : ∀ a, a < 0 → ∀ b, b < 0 → a ≠ b → (TJ11 a).2.1 ≠ (TJ11 b).2.1 := by decide +kernel
theorem tyJ11_ok : ∀ k, k < 0 → parseFieldDescriptor (TJ11 k).2.2.1 = some (tyJ11 k) := by decide +kernel
abbrev cJ11_isValidCodePoint_9a6ad : ByteArray := prog_11_method_11_code
def yJ11_isValidCodePoint_9a6ad : MethodName := ⟨RJ11, "isValidCodePoint", "(I)Z"⟩
abbrev cJ11_highSurrogate_5068e : ByteArray := prog_11_method_28_code
def yJ11_highSurrogate_5068e : MethodName := ⟨RJ11, "highSurrogate", "(I)C"⟩
abbrev cJ11_lowSurrogate_5068e : ByteArray := prog_11_method_29_code
def yJ11_lowSurrogate_5068e : MethodName := ⟨RJ11, "lowSurrogate", "(I)C"⟩
def RJ6 : String := "java/lang/Integer"
def TJ6 : u_T := fun k => match k with
  | _ => ("", "", "", false)
def tyJ6 : Nat → FieldType := fun k => match k with
  | _ => .int
abbrev wsJ60 : List Cond := u_ws RJ6 TJ6 0
theorem nmJ6 : ∀ a, a < 0 → ∀ b, b < 0 → a ≠ b → (TJ6 a).2.1 ≠ (TJ6 b).2.1 := by decide +kernel
theorem tyJ6_ok : ∀ k, k < 0 → parseFieldDescriptor (TJ6 k).2.2.1 = some (tyJ6 k) := by decide +kernel
abbrev cJ6_bitCount_0f7a4 : ByteArray := prog_12_method_49_code
def yJ6_bitCount_0f7a4 : MethodName := ⟨RJ6, "bitCount", "(I)I"⟩
def RJ9 : String := "java/lang/Math"
def TJ9 : u_T := fun k => match k with
  | _ => ("", "", "", false)
def tyJ9 : Nat → FieldType := fun k => match k with
  | _ => .int
abbrev wsJ90 : List Cond := u_ws RJ9 TJ9 0
theorem nmJ9 : ∀ a, a < 0 → ∀ b, b < 0 → a ≠ b → (TJ9 a).2.1 ≠ (TJ9 b).2.1 := by decide +kernel
theorem tyJ9_ok : ∀ k, k < 0 → parseFieldDescriptor (TJ9 k).2.2.1 = some (tyJ9 k) := by decide +kernel
abbrev cJ9_abs_0f7a4 : ByteArray := prog_13_method_59_code
def yJ9_abs_0f7a4 : MethodName := ⟨RJ9, "abs", "(I)I"⟩
abbrev cJ9_max_7cf53 : ByteArray := prog_13_method_65_code
def yJ9_max_7cf53 : MethodName := ⟨RJ9, "max", "(II)I"⟩
abbrev cJ9_min_7cf53 : ByteArray := prog_13_method_69_code
def yJ9_min_7cf53 : MethodName := ⟨RJ9, "min", "(II)I"⟩
def RJ0 : String := "java/lang/String"
def TJ0 : u_T := fun k => match k with
  | _ => ("", "", "", false)
def tyJ0 : Nat → FieldType := fun k => match k with
  | _ => .int
abbrev wsJ00 : List Cond := u_ws RJ0 TJ0 0
theorem nmJ0 : ∀ a, a < 0 → ∀ b, b < 0 → a ≠ b → (TJ0 a).2.1 ≠ (TJ0 b).2.1 := by decide +kernel
theorem tyJ0_ok : ∀ k, k < 0 → parseFieldDescriptor (TJ0 k).2.2.1 = some (tyJ0 k) := by decide +kernel
abbrev cJ0_length_8abf5 : ByteArray := prog_14_method_54_code
def yJ0_length_8abf5 : MethodName := ⟨RJ0, "length", "()I"⟩
abbrev cJ0_charAt_5068e : ByteArray := prog_14_method_56_code
def yJ0_charAt_5068e : MethodName := ⟨RJ0, "charAt", "(I)C"⟩
abbrev cJ0_indexOf_0f7a4 : ByteArray := prog_14_method_79_code
def yJ0_indexOf_0f7a4 : MethodName := ⟨RJ0, "indexOf", "(I)I"⟩
abbrev cJ0_indexOf_7cf53 : ByteArray := prog_14_method_80_code
def yJ0_indexOf_7cf53 : MethodName := ⟨RJ0, "indexOf", "(II)I"⟩
abbrev cJ0_coder_7d493 : ByteArray := prog_14_method_152_code
def yJ0_coder_7d493 : MethodName := ⟨RJ0, "coder", "()B"⟩
abbrev cJ0_isLatin1_aae02 : ByteArray := prog_14_method_154_code
def yJ0_isLatin1_aae02 : MethodName := ⟨RJ0, "isLatin1", "()Z"⟩
abbrev cJ0_checkIndex_df160 : ByteArray := prog_14_method_155_code
def yJ0_checkIndex_df160 : MethodName := ⟨RJ0, "checkIndex", "(II)V"⟩
abbrev cJ0_checkBoundsBeginEnd_23922 : ByteArray := prog_14_method_158_code
def yJ0_checkBoundsBeginEnd_23922 : MethodName := ⟨RJ0, "checkBoundsBeginEnd", "(III)V"⟩
def RJ1 : String := "java/lang/StringLatin1"
def TJ1 : u_T := fun k => match k with
  | _ => ("", "", "", false)
def tyJ1 : Nat → FieldType := fun k => match k with
  | _ => .int
abbrev wsJ10 : List Cond := u_ws RJ1 TJ1 0
theorem nmJ1 : ∀ a, a < 0 → ∀ b, b < 0 → a ≠ b → (TJ1 a).2.1 ≠ (TJ1 b).2.1 := by decide +kernel
theorem tyJ1_ok : ∀ k, k < 0 → parseFieldDescriptor (TJ1 k).2.2.1 = some (tyJ1 k) := by decide +kernel
abbrev cJ1_charAt_3b067 : ByteArray := prog_15_method_2_code
def yJ1_charAt_3b067 : MethodName := ⟨RJ1, "charAt", "([BI)C"⟩
abbrev cJ1_canEncode_9a6ad : ByteArray := prog_15_method_4_code
def yJ1_canEncode_9a6ad : MethodName := ⟨RJ1, "canEncode", "(I)Z"⟩
abbrev cJ1_indexOf_4cfef : ByteArray := prog_15_method_22_code
def yJ1_indexOf_4cfef : MethodName := ⟨RJ1, "indexOf", "([BIII)I"⟩
abbrev cJ1_indexOfChar_4cfef : ByteArray := prog_15_method_23_code
def yJ1_indexOfChar_4cfef : MethodName := ⟨RJ1, "indexOfChar", "([BIII)I"⟩
def RJ2 : String := "java/lang/StringUTF16"
def TJ2 : u_T := fun k => match k with
  | _ => ("", "", "", false)
def tyJ2 : Nat → FieldType := fun k => match k with
  | _ => .int
abbrev wsJ20 : List Cond := u_ws RJ2 TJ2 0
theorem nmJ2 : ∀ a, a < 0 → ∀ b, b < 0 → a ≠ b → (TJ2 a).2.1 ≠ (TJ2 b).2.1 := by decide +kernel
theorem tyJ2_ok : ∀ k, k < 0 → parseFieldDescriptor (TJ2 k).2.2.1 = some (tyJ2 k) := by decide +kernel
abbrev cJ2_getChar_3b067 : ByteArray := prog_16_method_5_code
def yJ2_getChar_3b067 : MethodName := ⟨RJ2, "getChar", "([BI)C"⟩
abbrev cJ2_length_9d52b : ByteArray := prog_16_method_6_code
def yJ2_length_9d52b : MethodName := ⟨RJ2, "length", "([B)I"⟩
abbrev cJ2_indexOf_4cfef : ByteArray := prog_16_method_40_code
def yJ2_indexOf_4cfef : MethodName := ⟨RJ2, "indexOf", "([BIII)I"⟩
abbrev cJ2_indexOfChar_4cfef : ByteArray := prog_16_method_47_code
def yJ2_indexOfChar_4cfef : MethodName := ⟨RJ2, "indexOfChar", "([BIII)I"⟩
abbrev cJ2_indexOfCharUnsafe_4cfef : ByteArray := prog_16_method_48_code
def yJ2_indexOfCharUnsafe_4cfef : MethodName := ⟨RJ2, "indexOfCharUnsafe", "([BIII)I"⟩
abbrev cJ2_indexOfSupplementary_4cfef : ByteArray := prog_16_method_49_code
def yJ2_indexOfSupplementary_4cfef : MethodName := ⟨RJ2, "indexOfSupplementary", "([BIII)I"⟩
abbrev cJ2_charAt_3b067 : ByteArray := prog_16_method_83_code
def yJ2_charAt_3b067 : MethodName := ⟨RJ2, "charAt", "([BI)C"⟩
abbrev cJ2_checkIndex_2214a : ByteArray := prog_16_method_91_code
def yJ2_checkIndex_2214a : MethodName := ⟨RJ2, "checkIndex", "(I[B)V"⟩
abbrev cJ2_checkBoundsBeginEnd_d044e : ByteArray := prog_16_method_93_code
def yJ2_checkBoundsBeginEnd_d044e : MethodName := ⟨RJ2, "checkBoundsBeginEnd", "(II[B)V"⟩
def RJ10 : String := "java/lang/System"
def TJ10 : u_T := fun k => match k with
  | _ => ("", "", "", false)
def tyJ10 : Nat → FieldType := fun k => match k with
  | _ => .int
abbrev wsJ100 : List Cond := u_ws RJ10 TJ10 0
theorem nmJ10 : ∀ a, a < 0 → ∀ b, b < 0 → a ≠ b → (TJ10 a).2.1 ≠ (TJ10 b).2.1 := by decide +kernel
theorem tyJ10_ok : ∀ k, k < 0 → parseFieldDescriptor (TJ10 k).2.2.1 = some (tyJ10 k) := by decide +kernel
def RJ3 : String := "jdk/internal/util/Preconditions"
def TJ3 : u_T := fun k => match k with
  | _ => ("", "", "", false)
def tyJ3 : Nat → FieldType := fun k => match k with
  | _ => .int
abbrev wsJ30 : List Cond := u_ws RJ3 TJ3 0
theorem nmJ3 : ∀ a, a < 0 → ∀ b, b < 0 → a ≠ b → (TJ3 a).2.1 ≠ (TJ3 b).2.1 := by decide +kernel
theorem tyJ3_ok : ∀ k, k < 0 → parseFieldDescriptor (TJ3 k).2.2.1 = some (tyJ3 k) := by decide +kernel
abbrev cJ3_checkIndex_8e157 : ByteArray := prog_18_method_11_code
def yJ3_checkIndex_8e157 : MethodName := ⟨RJ3, "checkIndex", "(IILjava/util/function/BiFunction;)I"⟩
abbrev cJ3_checkFromToIndex_8c36e : ByteArray := prog_18_method_12_code
def yJ3_checkFromToIndex_8c36e : MethodName := ⟨RJ3, "checkFromToIndex", "(IIILjava/util/function/BiFunction;)I"⟩
def RL : String := "TwelveShortLaw"
abbrev cL_law : ByteArray := code
def yL_law : MethodName := ⟨RL, "law", "([I)Z"⟩
/-! THE CLAIM OUT OF ONE WALK OF THE LAW'S BODY. Your part is whole_start (and what it stands on); all else here is the same for every law, but numbers. -/
def R_law : String := "TwelveShortLaw"
def lw_P (b : Addr) (xs : List Int32) (args : Array Value) (s : State) : Prop := args = #[.ref b] ∧ s.IntsAt b xs ∧ xs.length ≤ 3072 ∧ (Jvm.Cond.and given_1 narrow_1).before args s = true
def lw_Q (_ : Array Value) (s : State) (o : Outcome) (t : State) : Prop := o = .returned (some (.int 1)) ∧ Framed s o t [] 600000 7302249
def lw_Z (below : List Frame) (a : Array Value) (s : State) : State → Prop := fun t => ∃ o, t.status = .running ∧ Ended t below o ∧ lw_Q a s o t
/-- the law's own end, with 1 on the stack, nothing written that was there before, its room as the claim has it -/
theorem lw_ret {p : Program} {l : Launch} {e : Env} {s : State} {m : MethodId} {below : List Frame} {meth : Method} {c : Code} {b : Nat} (hx : p.tables.exec = Jvm.exec) (hb : c.code = code) (hr : meth.sig.returnType = ret) (hlocks : meth.locks = false) {pc : Nat} {H : Heap} {ls : Array Slot} (hdg : decode code pc = .ok (.ireturn, 1)) : W p l e room_1 s m #[Value.ref b] below meth c H [] 600000 7302249 (lw_Z below #[Value.ref b] s) (F0 m pc ls [.int 1]) := by
  intro T hT X
  obtain ⟨fs, hret, hrun, hended, hW, hframe⟩ := X.leave (v := some (.int 1)) (hlocks := hlocks) (fun h => by rw [hr] at h; cases h)
  have hmeth' : T.vm.method? m = some meth := X.method'
  refine ⟨T.setFrames fs, ?_, .returned (some (.int 1)), hrun, hended, rfl, ⟨_, rfl⟩, hW, hframe⟩
  jvm_step X.here [X.here.top, hx, hb, hdg, hmeth', hr, ret, narrow_b1]
  (try refine ⟨rfl, ?_⟩); (try refine ⟨rfl, ?_⟩)
  first | (intro acts; rw [hret _ acts rfl rfl rfl]) | rw [hret _ _ rfl rfl rfl]
  exact Steps.refl _
/-- what holds at the law's entry: the machine, the code, the tables' words (any of lw_tbl by 'hts w (by decide +kernel)'), the script of L ints xs at the cell b, what the Statement gives of the start (any of its parts by flat_of_before) -/
def lw_At (p : Program) (s : State) (m : MethodId) (meth : Method) (c : Code) (b L : Nat) (xs : Nat → Int32) : Prop :=
  p.tables.exec = Jvm.exec ∧ c.code = code ∧ meth.sig.returnType = ret ∧ c.maxLocals = 4 ∧ s.vm.findClass R_law = some m.cls ∧ (∀ w ∈ lw_tbl, w.before #[Value.ref b] s = true) ∧ va_X b L xs s s.heap ∧ b < s.heap.size ∧ meth.locks = false ∧ (Jvm.Cond.and given_1 narrow_1).before #[Value.ref b] s = true
